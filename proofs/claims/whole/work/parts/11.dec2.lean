abbrev y_Words_kind : MethodName := ⟨"PermitRules$Words", "kind", "()I"⟩
abbrev cw_Words_kind : Cond := .code y_Words_kind prog_8_method_3_code 1 (some .int)
theorem d_Words_kind_0 : decode prog_8_method_3_code 0 = .ok (.aload_n 0, 1) := by decide +kernel
theorem d_Words_kind_1 : decode prog_8_method_3_code 1 = .ok (.getfield 22, 3) := by decide +kernel
theorem d_Words_kind_4 : decode prog_8_method_3_code 4 = .ok (.ifCond .lt 27, 3) := by decide +kernel
theorem d_Words_kind_7 : decode prog_8_method_3_code 7 = .ok (.aload_n 0, 1) := by decide +kernel
theorem d_Words_kind_8 : decode prog_8_method_3_code 8 = .ok (.getfield 22, 3) := by decide +kernel
theorem d_Words_kind_11 : decode prog_8_method_3_code 11 = .ok (.aload_n 0, 1) := by decide +kernel
theorem d_Words_kind_12 : decode prog_8_method_3_code 12 = .ok (.getfield 9, 3) := by decide +kernel
theorem d_Words_kind_15 : decode prog_8_method_3_code 15 = .ok (.arraylength, 1) := by decide +kernel
theorem d_Words_kind_16 : decode prog_8_method_3_code 16 = .ok (.if_icmp .ge 15, 3) := by decide +kernel
theorem d_Words_kind_19 : decode prog_8_method_3_code 19 = .ok (.aload_n 0, 1) := by decide +kernel
theorem d_Words_kind_20 : decode prog_8_method_3_code 20 = .ok (.getfield 9, 3) := by decide +kernel
theorem d_Words_kind_23 : decode prog_8_method_3_code 23 = .ok (.aload_n 0, 1) := by decide +kernel
theorem d_Words_kind_24 : decode prog_8_method_3_code 24 = .ok (.getfield 22, 3) := by decide +kernel
theorem d_Words_kind_27 : decode prog_8_method_3_code 27 = .ok (.iaload, 1) := by decide +kernel
theorem d_Words_kind_28 : decode prog_8_method_3_code 28 = .ok (.goto 4, 3) := by decide +kernel
theorem d_Words_kind_31 : decode prog_8_method_3_code 31 = .ok (.iconst 1, 1) := by decide +kernel
theorem d_Words_kind_32 : decode prog_8_method_3_code 32 = .ok (.ireturn, 1) := by decide +kernel
abbrev y_Words_place : MethodName := ⟨"PermitRules$Words", "place", "()I"⟩
abbrev cw_Words_place : Cond := .code y_Words_place prog_8_method_4_code 1 (some .int)
theorem d_Words_place_0 : decode prog_8_method_4_code 0 = .ok (.aload_n 0, 1) := by decide +kernel
theorem d_Words_place_1 : decode prog_8_method_4_code 1 = .ok (.getfield 22, 3) := by decide +kernel
theorem d_Words_place_4 : decode prog_8_method_4_code 4 = .ok (.ifCond .lt 27, 3) := by decide +kernel
theorem d_Words_place_7 : decode prog_8_method_4_code 7 = .ok (.aload_n 0, 1) := by decide +kernel
theorem d_Words_place_8 : decode prog_8_method_4_code 8 = .ok (.getfield 22, 3) := by decide +kernel
theorem d_Words_place_11 : decode prog_8_method_4_code 11 = .ok (.aload_n 0, 1) := by decide +kernel
theorem d_Words_place_12 : decode prog_8_method_4_code 12 = .ok (.getfield 15, 3) := by decide +kernel
theorem d_Words_place_15 : decode prog_8_method_4_code 15 = .ok (.arraylength, 1) := by decide +kernel
theorem d_Words_place_16 : decode prog_8_method_4_code 16 = .ok (.if_icmp .ge 15, 3) := by decide +kernel
theorem d_Words_place_19 : decode prog_8_method_4_code 19 = .ok (.aload_n 0, 1) := by decide +kernel
theorem d_Words_place_20 : decode prog_8_method_4_code 20 = .ok (.getfield 15, 3) := by decide +kernel
theorem d_Words_place_23 : decode prog_8_method_4_code 23 = .ok (.aload_n 0, 1) := by decide +kernel
theorem d_Words_place_24 : decode prog_8_method_4_code 24 = .ok (.getfield 22, 3) := by decide +kernel
theorem d_Words_place_27 : decode prog_8_method_4_code 27 = .ok (.iaload, 1) := by decide +kernel
theorem d_Words_place_28 : decode prog_8_method_4_code 28 = .ok (.goto 4, 3) := by decide +kernel
theorem d_Words_place_31 : decode prog_8_method_4_code 31 = .ok (.iconst 0, 1) := by decide +kernel
theorem d_Words_place_32 : decode prog_8_method_4_code 32 = .ok (.ireturn, 1) := by decide +kernel
abbrev y_Words_worth : MethodName := ⟨"PermitRules$Words", "worth", "()J"⟩
abbrev cw_Words_worth : Cond := .code y_Words_worth prog_8_method_5_code 1 (some .long)
theorem d_Words_worth_0 : decode prog_8_method_5_code 0 = .ok (.aload_n 0, 1) := by decide +kernel
theorem d_Words_worth_1 : decode prog_8_method_5_code 1 = .ok (.getfield 22, 3) := by decide +kernel
theorem d_Words_worth_4 : decode prog_8_method_5_code 4 = .ok (.ifCond .lt 27, 3) := by decide +kernel
theorem d_Words_worth_7 : decode prog_8_method_5_code 7 = .ok (.aload_n 0, 1) := by decide +kernel
theorem d_Words_worth_8 : decode prog_8_method_5_code 8 = .ok (.getfield 22, 3) := by decide +kernel
theorem d_Words_worth_11 : decode prog_8_method_5_code 11 = .ok (.aload_n 0, 1) := by decide +kernel
theorem d_Words_worth_12 : decode prog_8_method_5_code 12 = .ok (.getfield 18, 3) := by decide +kernel
theorem d_Words_worth_15 : decode prog_8_method_5_code 15 = .ok (.arraylength, 1) := by decide +kernel
theorem d_Words_worth_16 : decode prog_8_method_5_code 16 = .ok (.if_icmp .ge 15, 3) := by decide +kernel
theorem d_Words_worth_19 : decode prog_8_method_5_code 19 = .ok (.aload_n 0, 1) := by decide +kernel
theorem d_Words_worth_20 : decode prog_8_method_5_code 20 = .ok (.getfield 18, 3) := by decide +kernel
theorem d_Words_worth_23 : decode prog_8_method_5_code 23 = .ok (.aload_n 0, 1) := by decide +kernel
theorem d_Words_worth_24 : decode prog_8_method_5_code 24 = .ok (.getfield 22, 3) := by decide +kernel
theorem d_Words_worth_27 : decode prog_8_method_5_code 27 = .ok (.laload, 1) := by decide +kernel
theorem d_Words_worth_28 : decode prog_8_method_5_code 28 = .ok (.goto 4, 3) := by decide +kernel
theorem d_Words_worth_31 : decode prog_8_method_5_code 31 = .ok (.lconst 0, 1) := by decide +kernel
theorem d_Words_worth_32 : decode prog_8_method_5_code 32 = .ok (.lreturn, 1) := by decide +kernel
abbrev y_Words_advance : MethodName := ⟨"PermitRules$Words", "advance", "()V"⟩
abbrev cw_Words_advance : Cond := .code y_Words_advance prog_8_method_6_code 1 none
theorem d_Words_advance_0 : decode prog_8_method_6_code 0 = .ok (.aload_n 0, 1) := by decide +kernel
theorem d_Words_advance_1 : decode prog_8_method_6_code 1 = .ok (.getfield 22, 3) := by decide +kernel
theorem d_Words_advance_4 : decode prog_8_method_6_code 4 = .ok (.bipush 120, 2) := by decide +kernel
theorem d_Words_advance_6 : decode prog_8_method_6_code 6 = .ok (.if_icmp .ge 13, 3) := by decide +kernel
theorem d_Words_advance_9 : decode prog_8_method_6_code 9 = .ok (.aload_n 0, 1) := by decide +kernel
theorem d_Words_advance_10 : decode prog_8_method_6_code 10 = .ok (.dup, 1) := by decide +kernel
theorem d_Words_advance_11 : decode prog_8_method_6_code 11 = .ok (.getfield 22, 3) := by decide +kernel
theorem d_Words_advance_14 : decode prog_8_method_6_code 14 = .ok (.iconst 1, 1) := by decide +kernel
theorem d_Words_advance_15 : decode prog_8_method_6_code 15 = .ok (.iadd, 1) := by decide +kernel
theorem d_Words_advance_16 : decode prog_8_method_6_code 16 = .ok (.putfield 22, 3) := by decide +kernel
theorem d_Words_advance_19 : decode prog_8_method_6_code 19 = .ok (.return_, 1) := by decide +kernel
abbrev y_Words_pass : MethodName := ⟨"PermitRules$Words", "pass", "(I)Z"⟩
abbrev cw_Words_pass : Cond := .code y_Words_pass prog_8_method_7_code 2 (some .boolean)
theorem d_Words_pass_0 : decode prog_8_method_7_code 0 = .ok (.aload_n 0, 1) := by decide +kernel
theorem d_Words_pass_1 : decode prog_8_method_7_code 1 = .ok (.getfield 22, 3) := by decide +kernel
theorem d_Words_pass_4 : decode prog_8_method_7_code 4 = .ok (.ifCond .lt 37, 3) := by decide +kernel
theorem d_Words_pass_7 : decode prog_8_method_7_code 7 = .ok (.aload_n 0, 1) := by decide +kernel
theorem d_Words_pass_8 : decode prog_8_method_7_code 8 = .ok (.getfield 22, 3) := by decide +kernel
theorem d_Words_pass_11 : decode prog_8_method_7_code 11 = .ok (.bipush 120, 2) := by decide +kernel
theorem d_Words_pass_13 : decode prog_8_method_7_code 13 = .ok (.if_icmp .ge 28, 3) := by decide +kernel
theorem d_Words_pass_16 : decode prog_8_method_7_code 16 = .ok (.aload_n 0, 1) := by decide +kernel
theorem d_Words_pass_17 : decode prog_8_method_7_code 17 = .ok (.getfield 22, 3) := by decide +kernel
theorem d_Words_pass_20 : decode prog_8_method_7_code 20 = .ok (.aload_n 0, 1) := by decide +kernel
theorem d_Words_pass_21 : decode prog_8_method_7_code 21 = .ok (.getfield 9, 3) := by decide +kernel
theorem d_Words_pass_24 : decode prog_8_method_7_code 24 = .ok (.arraylength, 1) := by decide +kernel
theorem d_Words_pass_25 : decode prog_8_method_7_code 25 = .ok (.if_icmp .ge 16, 3) := by decide +kernel
theorem d_Words_pass_28 : decode prog_8_method_7_code 28 = .ok (.aload_n 0, 1) := by decide +kernel
theorem d_Words_pass_29 : decode prog_8_method_7_code 29 = .ok (.getfield 9, 3) := by decide +kernel
theorem d_Words_pass_32 : decode prog_8_method_7_code 32 = .ok (.aload_n 0, 1) := by decide +kernel
theorem d_Words_pass_33 : decode prog_8_method_7_code 33 = .ok (.getfield 22, 3) := by decide +kernel
theorem d_Words_pass_36 : decode prog_8_method_7_code 36 = .ok (.iaload, 1) := by decide +kernel
theorem d_Words_pass_37 : decode prog_8_method_7_code 37 = .ok (.iload_n 1, 1) := by decide +kernel
theorem d_Words_pass_38 : decode prog_8_method_7_code 38 = .ok (.if_icmp .eq 5, 3) := by decide +kernel
theorem d_Words_pass_41 : decode prog_8_method_7_code 41 = .ok (.iconst 0, 1) := by decide +kernel
theorem d_Words_pass_42 : decode prog_8_method_7_code 42 = .ok (.ireturn, 1) := by decide +kernel
theorem d_Words_pass_43 : decode prog_8_method_7_code 43 = .ok (.aload_n 0, 1) := by decide +kernel
theorem d_Words_pass_44 : decode prog_8_method_7_code 44 = .ok (.dup, 1) := by decide +kernel
theorem d_Words_pass_45 : decode prog_8_method_7_code 45 = .ok (.getfield 22, 3) := by decide +kernel
theorem d_Words_pass_48 : decode prog_8_method_7_code 48 = .ok (.iconst 1, 1) := by decide +kernel
theorem d_Words_pass_49 : decode prog_8_method_7_code 49 = .ok (.iadd, 1) := by decide +kernel
theorem d_Words_pass_50 : decode prog_8_method_7_code 50 = .ok (.putfield 22, 3) := by decide +kernel
theorem d_Words_pass_53 : decode prog_8_method_7_code 53 = .ok (.iconst 1, 1) := by decide +kernel
theorem d_Words_pass_54 : decode prog_8_method_7_code 54 = .ok (.ireturn, 1) := by decide +kernel
abbrev y_Words_behindBlanks : MethodName := ⟨"PermitRules$Words", "behindBlanks", "(LPermitRules$Text;I)I"⟩
abbrev cw_Words_behindBlanks : Cond := .code y_Words_behindBlanks prog_8_method_8_code 3 (some .int)
theorem d_Words_behindBlanks_0 : decode prog_8_method_8_code 0 = .ok (.iload_n 1, 1) := by decide +kernel
theorem d_Words_behindBlanks_1 : decode prog_8_method_8_code 1 = .ok (.istore_n 2, 1) := by decide +kernel
theorem d_Words_behindBlanks_2 : decode prog_8_method_8_code 2 = .ok (.iload_n 2, 1) := by decide +kernel
theorem d_Words_behindBlanks_3 : decode prog_8_method_8_code 3 = .ok (.sipush 800, 3) := by decide +kernel
theorem d_Words_behindBlanks_6 : decode prog_8_method_8_code 6 = .ok (.if_icmp .ge 19, 3) := by decide +kernel
theorem d_Words_behindBlanks_9 : decode prog_8_method_8_code 9 = .ok (.aload_n 0, 1) := by decide +kernel
theorem d_Words_behindBlanks_10 : decode prog_8_method_8_code 10 = .ok (.iload_n 2, 1) := by decide +kernel
theorem d_Words_behindBlanks_11 : decode prog_8_method_8_code 11 = .ok (.invokevirtual 41, 3) := by decide +kernel
theorem d_Words_behindBlanks_14 : decode prog_8_method_8_code 14 = .ok (.bipush 32, 2) := by decide +kernel
theorem d_Words_behindBlanks_16 : decode prog_8_method_8_code 16 = .ok (.if_icmp .ne 9, 3) := by decide +kernel
theorem d_Words_behindBlanks_19 : decode prog_8_method_8_code 19 = .ok (.iinc 2 1, 3) := by decide +kernel
theorem d_Words_behindBlanks_22 : decode prog_8_method_8_code 22 = .ok (.goto (-20), 3) := by decide +kernel
theorem d_Words_behindBlanks_25 : decode prog_8_method_8_code 25 = .ok (.iload_n 2, 1) := by decide +kernel
theorem d_Words_behindBlanks_26 : decode prog_8_method_8_code 26 = .ok (.ireturn, 1) := by decide +kernel
abbrev y_Words_behindWord : MethodName := ⟨"PermitRules$Words", "behindWord", "(LPermitRules$Text;I)I"⟩
abbrev cw_Words_behindWord : Cond := .code y_Words_behindWord prog_8_method_9_code 4 (some .int)
theorem d_Words_behindWord_0 : decode prog_8_method_9_code 0 = .ok (.aload_n 0, 1) := by decide +kernel
theorem d_Words_behindWord_1 : decode prog_8_method_9_code 1 = .ok (.iload_n 1, 1) := by decide +kernel
theorem d_Words_behindWord_2 : decode prog_8_method_9_code 2 = .ok (.invokevirtual 41, 3) := by decide +kernel
theorem d_Words_behindWord_5 : decode prog_8_method_9_code 5 = .ok (.istore_n 2, 1) := by decide +kernel
theorem d_Words_behindWord_6 : decode prog_8_method_9_code 6 = .ok (.iload_n 1, 1) := by decide +kernel
theorem d_Words_behindWord_7 : decode prog_8_method_9_code 7 = .ok (.iconst 1, 1) := by decide +kernel
theorem d_Words_behindWord_8 : decode prog_8_method_9_code 8 = .ok (.iadd, 1) := by decide +kernel
theorem d_Words_behindWord_9 : decode prog_8_method_9_code 9 = .ok (.istore_n 3, 1) := by decide +kernel
theorem d_Words_behindWord_10 : decode prog_8_method_9_code 10 = .ok (.iload_n 2, 1) := by decide +kernel
theorem d_Words_behindWord_11 : decode prog_8_method_9_code 11 = .ok (.invokestatic 47, 3) := by decide +kernel
theorem d_Words_behindWord_14 : decode prog_8_method_9_code 14 = .ok (.ifCond .eq 27, 3) := by decide +kernel
theorem d_Words_behindWord_17 : decode prog_8_method_9_code 17 = .ok (.iload_n 3, 1) := by decide +kernel
theorem d_Words_behindWord_18 : decode prog_8_method_9_code 18 = .ok (.sipush 800, 3) := by decide +kernel
theorem d_Words_behindWord_21 : decode prog_8_method_9_code 21 = .ok (.if_icmp .ge 76, 3) := by decide +kernel
theorem d_Words_behindWord_24 : decode prog_8_method_9_code 24 = .ok (.aload_n 0, 1) := by decide +kernel
theorem d_Words_behindWord_25 : decode prog_8_method_9_code 25 = .ok (.iload_n 3, 1) := by decide +kernel
theorem d_Words_behindWord_26 : decode prog_8_method_9_code 26 = .ok (.invokevirtual 41, 3) := by decide +kernel
theorem d_Words_behindWord_29 : decode prog_8_method_9_code 29 = .ok (.invokestatic 47, 3) := by decide +kernel
theorem d_Words_behindWord_32 : decode prog_8_method_9_code 32 = .ok (.ifCond .eq 65, 3) := by decide +kernel
theorem d_Words_behindWord_35 : decode prog_8_method_9_code 35 = .ok (.iinc 3 1, 3) := by decide +kernel
theorem d_Words_behindWord_38 : decode prog_8_method_9_code 38 = .ok (.goto (-21), 3) := by decide +kernel
theorem d_Words_behindWord_41 : decode prog_8_method_9_code 41 = .ok (.iload_n 2, 1) := by decide +kernel
theorem d_Words_behindWord_42 : decode prog_8_method_9_code 42 = .ok (.invokestatic 51, 3) := by decide +kernel
theorem d_Words_behindWord_45 : decode prog_8_method_9_code 45 = .ok (.ifCond .eq 27, 3) := by decide +kernel
theorem d_Words_behindWord_48 : decode prog_8_method_9_code 48 = .ok (.iload_n 3, 1) := by decide +kernel
theorem d_Words_behindWord_49 : decode prog_8_method_9_code 49 = .ok (.sipush 800, 3) := by decide +kernel
theorem d_Words_behindWord_52 : decode prog_8_method_9_code 52 = .ok (.if_icmp .ge 45, 3) := by decide +kernel
theorem d_Words_behindWord_55 : decode prog_8_method_9_code 55 = .ok (.aload_n 0, 1) := by decide +kernel
theorem d_Words_behindWord_56 : decode prog_8_method_9_code 56 = .ok (.iload_n 3, 1) := by decide +kernel
theorem d_Words_behindWord_57 : decode prog_8_method_9_code 57 = .ok (.invokevirtual 41, 3) := by decide +kernel
theorem d_Words_behindWord_60 : decode prog_8_method_9_code 60 = .ok (.invokestatic 51, 3) := by decide +kernel
theorem d_Words_behindWord_63 : decode prog_8_method_9_code 63 = .ok (.ifCond .eq 34, 3) := by decide +kernel
theorem d_Words_behindWord_66 : decode prog_8_method_9_code 66 = .ok (.iinc 3 1, 3) := by decide +kernel
theorem d_Words_behindWord_69 : decode prog_8_method_9_code 69 = .ok (.goto (-21), 3) := by decide +kernel
theorem d_Words_behindWord_72 : decode prog_8_method_9_code 72 = .ok (.iload_n 2, 1) := by decide +kernel
theorem d_Words_behindWord_73 : decode prog_8_method_9_code 73 = .ok (.bipush 60, 2) := by decide +kernel
theorem d_Words_behindWord_75 : decode prog_8_method_9_code 75 = .ok (.if_icmp .eq 9, 3) := by decide +kernel
theorem d_Words_behindWord_78 : decode prog_8_method_9_code 78 = .ok (.iload_n 2, 1) := by decide +kernel
theorem d_Words_behindWord_79 : decode prog_8_method_9_code 79 = .ok (.bipush 62, 2) := by decide +kernel
theorem d_Words_behindWord_81 : decode prog_8_method_9_code 81 = .ok (.if_icmp .ne 16, 3) := by decide +kernel
theorem d_Words_behindWord_84 : decode prog_8_method_9_code 84 = .ok (.aload_n 0, 1) := by decide +kernel
theorem d_Words_behindWord_85 : decode prog_8_method_9_code 85 = .ok (.iload_n 3, 1) := by decide +kernel
theorem d_Words_behindWord_86 : decode prog_8_method_9_code 86 = .ok (.invokevirtual 41, 3) := by decide +kernel
theorem d_Words_behindWord_89 : decode prog_8_method_9_code 89 = .ok (.bipush 61, 2) := by decide +kernel
theorem d_Words_behindWord_91 : decode prog_8_method_9_code 91 = .ok (.if_icmp .ne 6, 3) := by decide +kernel
theorem d_Words_behindWord_94 : decode prog_8_method_9_code 94 = .ok (.iinc 3 1, 3) := by decide +kernel
theorem d_Words_behindWord_97 : decode prog_8_method_9_code 97 = .ok (.iload_n 3, 1) := by decide +kernel
theorem d_Words_behindWord_98 : decode prog_8_method_9_code 98 = .ok (.ireturn, 1) := by decide +kernel
abbrev y_Words_kindOf : MethodName := ⟨"PermitRules$Words", "kindOf", "(LPermitRules$Text;II)I"⟩
abbrev cw_Words_kindOf : Cond := .code y_Words_kindOf prog_8_method_10_code 4 (some .int)
theorem d_Words_kindOf_0 : decode prog_8_method_10_code 0 = .ok (.aload_n 0, 1) := by decide +kernel
theorem d_Words_kindOf_1 : decode prog_8_method_10_code 1 = .ok (.iload_n 1, 1) := by decide +kernel
theorem d_Words_kindOf_2 : decode prog_8_method_10_code 2 = .ok (.invokevirtual 41, 3) := by decide +kernel
theorem d_Words_kindOf_5 : decode prog_8_method_10_code 5 = .ok (.istore_n 3, 1) := by decide +kernel
theorem d_Words_kindOf_6 : decode prog_8_method_10_code 6 = .ok (.iload_n 3, 1) := by decide +kernel
theorem d_Words_kindOf_7 : decode prog_8_method_10_code 7 = .ok (.ifCond .ne 5, 3) := by decide +kernel
theorem d_Words_kindOf_10 : decode prog_8_method_10_code 10 = .ok (.iconst 0, 1) := by decide +kernel
theorem d_Words_kindOf_11 : decode prog_8_method_10_code 11 = .ok (.ireturn, 1) := by decide +kernel
theorem d_Words_kindOf_12 : decode prog_8_method_10_code 12 = .ok (.iload_n 3, 1) := by decide +kernel
theorem d_Words_kindOf_13 : decode prog_8_method_10_code 13 = .ok (.invokestatic 47, 3) := by decide +kernel
theorem d_Words_kindOf_16 : decode prog_8_method_10_code 16 = .ok (.ifCond .eq 17, 3) := by decide +kernel
theorem d_Words_kindOf_19 : decode prog_8_method_10_code 19 = .ok (.iload_n 2, 1) := by decide +kernel
theorem d_Words_kindOf_20 : decode prog_8_method_10_code 20 = .ok (.iload_n 1, 1) := by decide +kernel
theorem d_Words_kindOf_21 : decode prog_8_method_10_code 21 = .ok (.isub, 1) := by decide +kernel
theorem d_Words_kindOf_22 : decode prog_8_method_10_code 22 = .ok (.bipush 9, 2) := by decide +kernel
theorem d_Words_kindOf_24 : decode prog_8_method_10_code 24 = .ok (.if_icmp .gt 7, 3) := by decide +kernel
theorem d_Words_kindOf_27 : decode prog_8_method_10_code 27 = .ok (.iconst 2, 1) := by decide +kernel
theorem d_Words_kindOf_28 : decode prog_8_method_10_code 28 = .ok (.goto 4, 3) := by decide +kernel
theorem d_Words_kindOf_31 : decode prog_8_method_10_code 31 = .ok (.iconst 1, 1) := by decide +kernel
theorem d_Words_kindOf_32 : decode prog_8_method_10_code 32 = .ok (.ireturn, 1) := by decide +kernel
theorem d_Words_kindOf_33 : decode prog_8_method_10_code 33 = .ok (.iload_n 3, 1) := by decide +kernel
theorem d_Words_kindOf_34 : decode prog_8_method_10_code 34 = .ok (.invokestatic 51, 3) := by decide +kernel
theorem d_Words_kindOf_37 : decode prog_8_method_10_code 37 = .ok (.ifCond .eq 17, 3) := by decide +kernel
theorem d_Words_kindOf_40 : decode prog_8_method_10_code 40 = .ok (.iload_n 2, 1) := by decide +kernel
theorem d_Words_kindOf_41 : decode prog_8_method_10_code 41 = .ok (.iload_n 1, 1) := by decide +kernel
theorem d_Words_kindOf_42 : decode prog_8_method_10_code 42 = .ok (.isub, 1) := by decide +kernel
theorem d_Words_kindOf_43 : decode prog_8_method_10_code 43 = .ok (.bipush 8, 2) := by decide +kernel
theorem d_Words_kindOf_45 : decode prog_8_method_10_code 45 = .ok (.if_icmp .gt 7, 3) := by decide +kernel
theorem d_Words_kindOf_48 : decode prog_8_method_10_code 48 = .ok (.iconst 3, 1) := by decide +kernel
theorem d_Words_kindOf_49 : decode prog_8_method_10_code 49 = .ok (.goto 4, 3) := by decide +kernel
theorem d_Words_kindOf_52 : decode prog_8_method_10_code 52 = .ok (.iconst 1, 1) := by decide +kernel
theorem d_Words_kindOf_53 : decode prog_8_method_10_code 53 = .ok (.ireturn, 1) := by decide +kernel
theorem d_Words_kindOf_54 : decode prog_8_method_10_code 54 = .ok (.iload_n 2, 1) := by decide +kernel
theorem d_Words_kindOf_55 : decode prog_8_method_10_code 55 = .ok (.iload_n 1, 1) := by decide +kernel
theorem d_Words_kindOf_56 : decode prog_8_method_10_code 56 = .ok (.isub, 1) := by decide +kernel
theorem d_Words_kindOf_57 : decode prog_8_method_10_code 57 = .ok (.iconst 2, 1) := by decide +kernel
theorem d_Words_kindOf_58 : decode prog_8_method_10_code 58 = .ok (.if_icmp .ne 15, 3) := by decide +kernel
theorem d_Words_kindOf_61 : decode prog_8_method_10_code 61 = .ok (.iload_n 3, 1) := by decide +kernel
theorem d_Words_kindOf_62 : decode prog_8_method_10_code 62 = .ok (.bipush 60, 2) := by decide +kernel
theorem d_Words_kindOf_64 : decode prog_8_method_10_code 64 = .ok (.if_icmp .ne 7, 3) := by decide +kernel
theorem d_Words_kindOf_67 : decode prog_8_method_10_code 67 = .ok (.iconst 4, 1) := by decide +kernel
theorem d_Words_kindOf_68 : decode prog_8_method_10_code 68 = .ok (.goto 4, 3) := by decide +kernel
theorem d_Words_kindOf_71 : decode prog_8_method_10_code 71 = .ok (.iconst 5, 1) := by decide +kernel
theorem d_Words_kindOf_72 : decode prog_8_method_10_code 72 = .ok (.ireturn, 1) := by decide +kernel
theorem d_Words_kindOf_73 : decode prog_8_method_10_code 73 = .ok (.iload_n 3, 1) := by decide +kernel
theorem d_Words_kindOf_74 : decode prog_8_method_10_code 74 = .ok (.ireturn, 1) := by decide +kernel
abbrev y_Words_worthOf : MethodName := ⟨"PermitRules$Words", "worthOf", "(LPermitRules$Text;III)J"⟩
abbrev cw_Words_worthOf : Cond := .code y_Words_worthOf prog_8_method_11_code 7 (some .long)
theorem d_Words_worthOf_0 : decode prog_8_method_11_code 0 = .ok (.lconst 0, 1) := by decide +kernel
theorem d_Words_worthOf_1 : decode prog_8_method_11_code 1 = .ok (.lstore 4, 2) := by decide +kernel
theorem d_Words_worthOf_3 : decode prog_8_method_11_code 3 = .ok (.iload_n 3, 1) := by decide +kernel
theorem d_Words_worthOf_4 : decode prog_8_method_11_code 4 = .ok (.iconst 2, 1) := by decide +kernel
theorem d_Words_worthOf_5 : decode prog_8_method_11_code 5 = .ok (.if_icmp .ne 40, 3) := by decide +kernel
theorem d_Words_worthOf_8 : decode prog_8_method_11_code 8 = .ok (.iload_n 1, 1) := by decide +kernel
theorem d_Words_worthOf_9 : decode prog_8_method_11_code 9 = .ok (.istore 6, 2) := by decide +kernel
theorem d_Words_worthOf_11 : decode prog_8_method_11_code 11 = .ok (.iload 6, 2) := by decide +kernel
theorem d_Words_worthOf_13 : decode prog_8_method_11_code 13 = .ok (.iload_n 2, 1) := by decide +kernel
theorem d_Words_worthOf_14 : decode prog_8_method_11_code 14 = .ok (.if_icmp .ge 28, 3) := by decide +kernel
theorem d_Words_worthOf_17 : decode prog_8_method_11_code 17 = .ok (.lload 4, 2) := by decide +kernel
theorem d_Words_worthOf_19 : decode prog_8_method_11_code 19 = .ok (.ldc2_w 54, 3) := by decide +kernel
theorem d_Words_worthOf_22 : decode prog_8_method_11_code 22 = .ok (.lmul, 1) := by decide +kernel
theorem d_Words_worthOf_23 : decode prog_8_method_11_code 23 = .ok (.aload_n 0, 1) := by decide +kernel
theorem d_Words_worthOf_24 : decode prog_8_method_11_code 24 = .ok (.iload 6, 2) := by decide +kernel
theorem d_Words_worthOf_26 : decode prog_8_method_11_code 26 = .ok (.invokevirtual 41, 3) := by decide +kernel
theorem d_Words_worthOf_29 : decode prog_8_method_11_code 29 = .ok (.bipush 48, 2) := by decide +kernel
theorem d_Words_worthOf_31 : decode prog_8_method_11_code 31 = .ok (.isub, 1) := by decide +kernel
theorem d_Words_worthOf_32 : decode prog_8_method_11_code 32 = .ok (.i2l, 1) := by decide +kernel
theorem d_Words_worthOf_33 : decode prog_8_method_11_code 33 = .ok (.ladd, 1) := by decide +kernel
theorem d_Words_worthOf_34 : decode prog_8_method_11_code 34 = .ok (.lstore 4, 2) := by decide +kernel
theorem d_Words_worthOf_36 : decode prog_8_method_11_code 36 = .ok (.iinc 6 1, 3) := by decide +kernel
theorem d_Words_worthOf_39 : decode prog_8_method_11_code 39 = .ok (.goto (-28), 3) := by decide +kernel
theorem d_Words_worthOf_42 : decode prog_8_method_11_code 42 = .ok (.goto 38, 3) := by decide +kernel
theorem d_Words_worthOf_45 : decode prog_8_method_11_code 45 = .ok (.iload_n 3, 1) := by decide +kernel
theorem d_Words_worthOf_46 : decode prog_8_method_11_code 46 = .ok (.iconst 3, 1) := by decide +kernel
theorem d_Words_worthOf_47 : decode prog_8_method_11_code 47 = .ok (.if_icmp .ne 33, 3) := by decide +kernel
theorem d_Words_worthOf_50 : decode prog_8_method_11_code 50 = .ok (.iload_n 1, 1) := by decide +kernel
theorem d_Words_worthOf_51 : decode prog_8_method_11_code 51 = .ok (.istore 6, 2) := by decide +kernel
theorem d_Words_worthOf_53 : decode prog_8_method_11_code 53 = .ok (.iload 6, 2) := by decide +kernel
theorem d_Words_worthOf_55 : decode prog_8_method_11_code 55 = .ok (.iload_n 2, 1) := by decide +kernel
theorem d_Words_worthOf_56 : decode prog_8_method_11_code 56 = .ok (.if_icmp .ge 24, 3) := by decide +kernel
theorem d_Words_worthOf_59 : decode prog_8_method_11_code 59 = .ok (.lload 4, 2) := by decide +kernel
theorem d_Words_worthOf_61 : decode prog_8_method_11_code 61 = .ok (.bipush 8, 2) := by decide +kernel
theorem d_Words_worthOf_63 : decode prog_8_method_11_code 63 = .ok (.lshl, 1) := by decide +kernel
theorem d_Words_worthOf_64 : decode prog_8_method_11_code 64 = .ok (.aload_n 0, 1) := by decide +kernel
theorem d_Words_worthOf_65 : decode prog_8_method_11_code 65 = .ok (.iload 6, 2) := by decide +kernel
theorem d_Words_worthOf_67 : decode prog_8_method_11_code 67 = .ok (.invokevirtual 41, 3) := by decide +kernel
theorem d_Words_worthOf_70 : decode prog_8_method_11_code 70 = .ok (.i2l, 1) := by decide +kernel
theorem d_Words_worthOf_71 : decode prog_8_method_11_code 71 = .ok (.lor, 1) := by decide +kernel
theorem d_Words_worthOf_72 : decode prog_8_method_11_code 72 = .ok (.lstore 4, 2) := by decide +kernel
theorem d_Words_worthOf_74 : decode prog_8_method_11_code 74 = .ok (.iinc 6 1, 3) := by decide +kernel
theorem d_Words_worthOf_77 : decode prog_8_method_11_code 77 = .ok (.goto (-24), 3) := by decide +kernel
theorem d_Words_worthOf_80 : decode prog_8_method_11_code 80 = .ok (.lload 4, 2) := by decide +kernel
theorem d_Words_worthOf_82 : decode prog_8_method_11_code 82 = .ok (.lreturn, 1) := by decide +kernel
abbrev y_Words_split : MethodName := ⟨"PermitRules$Words", "split", "(LPermitRules$Text;)V"⟩
abbrev cw_Words_split : Cond := .code y_Words_split prog_8_method_2_code 6 none
theorem d_Words_split_0 : decode prog_8_method_2_code 0 = .ok (.aload_n 0, 1) := by decide +kernel
theorem d_Words_split_1 : decode prog_8_method_2_code 1 = .ok (.iconst 0, 1) := by decide +kernel
theorem d_Words_split_2 : decode prog_8_method_2_code 2 = .ok (.putfield 22, 3) := by decide +kernel
theorem d_Words_split_5 : decode prog_8_method_2_code 5 = .ok (.iconst 0, 1) := by decide +kernel
theorem d_Words_split_6 : decode prog_8_method_2_code 6 = .ok (.istore_n 2, 1) := by decide +kernel
theorem d_Words_split_7 : decode prog_8_method_2_code 7 = .ok (.iconst 0, 1) := by decide +kernel
theorem d_Words_split_8 : decode prog_8_method_2_code 8 = .ok (.istore_n 3, 1) := by decide +kernel
theorem d_Words_split_9 : decode prog_8_method_2_code 9 = .ok (.iload_n 3, 1) := by decide +kernel
theorem d_Words_split_10 : decode prog_8_method_2_code 10 = .ok (.bipush 120, 2) := by decide +kernel
theorem d_Words_split_12 : decode prog_8_method_2_code 12 = .ok (.if_icmp .gt 117, 3) := by decide +kernel
theorem d_Words_split_15 : decode prog_8_method_2_code 15 = .ok (.iload_n 3, 1) := by decide +kernel
theorem d_Words_split_16 : decode prog_8_method_2_code 16 = .ok (.aload_n 0, 1) := by decide +kernel
theorem d_Words_split_17 : decode prog_8_method_2_code 17 = .ok (.getfield 9, 3) := by decide +kernel
theorem d_Words_split_20 : decode prog_8_method_2_code 20 = .ok (.arraylength, 1) := by decide +kernel
theorem d_Words_split_21 : decode prog_8_method_2_code 21 = .ok (.if_icmp .ge 108, 3) := by decide +kernel
theorem d_Words_split_24 : decode prog_8_method_2_code 24 = .ok (.iload_n 3, 1) := by decide +kernel
theorem d_Words_split_25 : decode prog_8_method_2_code 25 = .ok (.aload_n 0, 1) := by decide +kernel
theorem d_Words_split_26 : decode prog_8_method_2_code 26 = .ok (.getfield 15, 3) := by decide +kernel
theorem d_Words_split_29 : decode prog_8_method_2_code 29 = .ok (.arraylength, 1) := by decide +kernel
theorem d_Words_split_30 : decode prog_8_method_2_code 30 = .ok (.if_icmp .ge 99, 3) := by decide +kernel
theorem d_Words_split_33 : decode prog_8_method_2_code 33 = .ok (.iload_n 3, 1) := by decide +kernel
theorem d_Words_split_34 : decode prog_8_method_2_code 34 = .ok (.aload_n 0, 1) := by decide +kernel
theorem d_Words_split_35 : decode prog_8_method_2_code 35 = .ok (.getfield 18, 3) := by decide +kernel
theorem d_Words_split_38 : decode prog_8_method_2_code 38 = .ok (.arraylength, 1) := by decide +kernel
theorem d_Words_split_39 : decode prog_8_method_2_code 39 = .ok (.if_icmp .ge 90, 3) := by decide +kernel
theorem d_Words_split_42 : decode prog_8_method_2_code 42 = .ok (.aload_n 1, 1) := by decide +kernel
theorem d_Words_split_43 : decode prog_8_method_2_code 43 = .ok (.iload_n 2, 1) := by decide +kernel
theorem d_Words_split_44 : decode prog_8_method_2_code 44 = .ok (.invokestatic 26, 3) := by decide +kernel
theorem d_Words_split_47 : decode prog_8_method_2_code 47 = .ok (.istore_n 2, 1) := by decide +kernel
theorem d_Words_split_48 : decode prog_8_method_2_code 48 = .ok (.aload_n 1, 1) := by decide +kernel
theorem d_Words_split_49 : decode prog_8_method_2_code 49 = .ok (.iload_n 2, 1) := by decide +kernel
theorem d_Words_split_50 : decode prog_8_method_2_code 50 = .ok (.invokestatic 30, 3) := by decide +kernel
theorem d_Words_split_53 : decode prog_8_method_2_code 53 = .ok (.istore 4, 2) := by decide +kernel
theorem d_Words_split_55 : decode prog_8_method_2_code 55 = .ok (.aload_n 1, 1) := by decide +kernel
theorem d_Words_split_56 : decode prog_8_method_2_code 56 = .ok (.iload_n 2, 1) := by decide +kernel
theorem d_Words_split_57 : decode prog_8_method_2_code 57 = .ok (.iload 4, 2) := by decide +kernel
theorem d_Words_split_59 : decode prog_8_method_2_code 59 = .ok (.invokestatic 33, 3) := by decide +kernel
theorem d_Words_split_62 : decode prog_8_method_2_code 62 = .ok (.istore 5, 2) := by decide +kernel
theorem d_Words_split_64 : decode prog_8_method_2_code 64 = .ok (.iload_n 3, 1) := by decide +kernel
theorem d_Words_split_65 : decode prog_8_method_2_code 65 = .ok (.bipush 120, 2) := by decide +kernel
theorem d_Words_split_67 : decode prog_8_method_2_code 67 = .ok (.if_icmp .ne 11, 3) := by decide +kernel
theorem d_Words_split_70 : decode prog_8_method_2_code 70 = .ok (.iload 5, 2) := by decide +kernel
theorem d_Words_split_72 : decode prog_8_method_2_code 72 = .ok (.ifCond .eq 6, 3) := by decide +kernel
theorem d_Words_split_75 : decode prog_8_method_2_code 75 = .ok (.iconst 1, 1) := by decide +kernel
theorem d_Words_split_76 : decode prog_8_method_2_code 76 = .ok (.istore 5, 2) := by decide +kernel
theorem d_Words_split_78 : decode prog_8_method_2_code 78 = .ok (.aload_n 0, 1) := by decide +kernel
theorem d_Words_split_79 : decode prog_8_method_2_code 79 = .ok (.getfield 9, 3) := by decide +kernel
theorem d_Words_split_82 : decode prog_8_method_2_code 82 = .ok (.iload_n 3, 1) := by decide +kernel
theorem d_Words_split_83 : decode prog_8_method_2_code 83 = .ok (.iload 5, 2) := by decide +kernel
theorem d_Words_split_85 : decode prog_8_method_2_code 85 = .ok (.iastore, 1) := by decide +kernel
theorem d_Words_split_86 : decode prog_8_method_2_code 86 = .ok (.aload_n 0, 1) := by decide +kernel
theorem d_Words_split_87 : decode prog_8_method_2_code 87 = .ok (.getfield 15, 3) := by decide +kernel
theorem d_Words_split_90 : decode prog_8_method_2_code 90 = .ok (.iload_n 3, 1) := by decide +kernel
theorem d_Words_split_91 : decode prog_8_method_2_code 91 = .ok (.iload_n 2, 1) := by decide +kernel
theorem d_Words_split_92 : decode prog_8_method_2_code 92 = .ok (.iastore, 1) := by decide +kernel
theorem d_Words_split_93 : decode prog_8_method_2_code 93 = .ok (.aload_n 0, 1) := by decide +kernel
theorem d_Words_split_94 : decode prog_8_method_2_code 94 = .ok (.getfield 18, 3) := by decide +kernel
theorem d_Words_split_97 : decode prog_8_method_2_code 97 = .ok (.iload_n 3, 1) := by decide +kernel
theorem d_Words_split_98 : decode prog_8_method_2_code 98 = .ok (.aload_n 1, 1) := by decide +kernel
theorem d_Words_split_99 : decode prog_8_method_2_code 99 = .ok (.iload_n 2, 1) := by decide +kernel
theorem d_Words_split_100 : decode prog_8_method_2_code 100 = .ok (.iload 4, 2) := by decide +kernel
theorem d_Words_split_102 : decode prog_8_method_2_code 102 = .ok (.iload 5, 2) := by decide +kernel
theorem d_Words_split_104 : decode prog_8_method_2_code 104 = .ok (.invokestatic 37, 3) := by decide +kernel
theorem d_Words_split_107 : decode prog_8_method_2_code 107 = .ok (.lastore, 1) := by decide +kernel
theorem d_Words_split_108 : decode prog_8_method_2_code 108 = .ok (.iload 5, 2) := by decide +kernel
theorem d_Words_split_110 : decode prog_8_method_2_code 110 = .ok (.ifCond .eq 9, 3) := by decide +kernel
theorem d_Words_split_113 : decode prog_8_method_2_code 113 = .ok (.iload 5, 2) := by decide +kernel
theorem d_Words_split_115 : decode prog_8_method_2_code 115 = .ok (.iconst 1, 1) := by decide +kernel
theorem d_Words_split_116 : decode prog_8_method_2_code 116 = .ok (.if_icmp .ne 4, 3) := by decide +kernel
theorem d_Words_split_119 : decode prog_8_method_2_code 119 = .ok (.return_, 1) := by decide +kernel
theorem d_Words_split_120 : decode prog_8_method_2_code 120 = .ok (.iload 4, 2) := by decide +kernel
theorem d_Words_split_122 : decode prog_8_method_2_code 122 = .ok (.istore_n 2, 1) := by decide +kernel
theorem d_Words_split_123 : decode prog_8_method_2_code 123 = .ok (.iinc 3 1, 3) := by decide +kernel
theorem d_Words_split_126 : decode prog_8_method_2_code 126 = .ok (.goto (-117), 3) := by decide +kernel
theorem d_Words_split_129 : decode prog_8_method_2_code 129 = .ok (.return_, 1) := by decide +kernel
abbrev y_Reckoner_upper : MethodName := ⟨"PermitRules$Reckoner", "upper", "()J"⟩
abbrev cw_Reckoner_upper : Cond := .code y_Reckoner_upper prog_6_method_4_code 1 (some .long)
theorem d_Reckoner_upper_0 : decode prog_6_method_4_code 0 = .ok (.aload_n 0, 1) := by decide +kernel
theorem d_Reckoner_upper_1 : decode prog_6_method_4_code 1 = .ok (.getfield 22, 3) := by decide +kernel
theorem d_Reckoner_upper_4 : decode prog_6_method_4_code 4 = .ok (.ifCond .ne 36, 3) := by decide +kernel
theorem d_Reckoner_upper_7 : decode prog_6_method_4_code 7 = .ok (.aload_n 0, 1) := by decide +kernel
theorem d_Reckoner_upper_8 : decode prog_6_method_4_code 8 = .ok (.getfield 18, 3) := by decide +kernel
theorem d_Reckoner_upper_11 : decode prog_6_method_4_code 11 = .ok (.ifCond .le 29, 3) := by decide +kernel
theorem d_Reckoner_upper_14 : decode prog_6_method_4_code 14 = .ok (.aload_n 0, 1) := by decide +kernel
theorem d_Reckoner_upper_15 : decode prog_6_method_4_code 15 = .ok (.getfield 18, 3) := by decide +kernel
theorem d_Reckoner_upper_18 : decode prog_6_method_4_code 18 = .ok (.aload_n 0, 1) := by decide +kernel
theorem d_Reckoner_upper_19 : decode prog_6_method_4_code 19 = .ok (.getfield 9, 3) := by decide +kernel
theorem d_Reckoner_upper_22 : decode prog_6_method_4_code 22 = .ok (.arraylength, 1) := by decide +kernel
theorem d_Reckoner_upper_23 : decode prog_6_method_4_code 23 = .ok (.if_icmp .gt 17, 3) := by decide +kernel
theorem d_Reckoner_upper_26 : decode prog_6_method_4_code 26 = .ok (.aload_n 0, 1) := by decide +kernel
theorem d_Reckoner_upper_27 : decode prog_6_method_4_code 27 = .ok (.getfield 9, 3) := by decide +kernel
theorem d_Reckoner_upper_30 : decode prog_6_method_4_code 30 = .ok (.aload_n 0, 1) := by decide +kernel
theorem d_Reckoner_upper_31 : decode prog_6_method_4_code 31 = .ok (.getfield 18, 3) := by decide +kernel
theorem d_Reckoner_upper_34 : decode prog_6_method_4_code 34 = .ok (.iconst 1, 1) := by decide +kernel
theorem d_Reckoner_upper_35 : decode prog_6_method_4_code 35 = .ok (.isub, 1) := by decide +kernel
theorem d_Reckoner_upper_36 : decode prog_6_method_4_code 36 = .ok (.laload, 1) := by decide +kernel
theorem d_Reckoner_upper_37 : decode prog_6_method_4_code 37 = .ok (.goto 4, 3) := by decide +kernel
theorem d_Reckoner_upper_40 : decode prog_6_method_4_code 40 = .ok (.lconst 0, 1) := by decide +kernel
theorem d_Reckoner_upper_41 : decode prog_6_method_4_code 41 = .ok (.lreturn, 1) := by decide +kernel
abbrev y_Reckoner_lower : MethodName := ⟨"PermitRules$Reckoner", "lower", "()J"⟩
abbrev cw_Reckoner_lower : Cond := .code y_Reckoner_lower prog_6_method_5_code 1 (some .long)
theorem d_Reckoner_lower_0 : decode prog_6_method_5_code 0 = .ok (.aload_n 0, 1) := by decide +kernel
theorem d_Reckoner_lower_1 : decode prog_6_method_5_code 1 = .ok (.getfield 22, 3) := by decide +kernel
theorem d_Reckoner_lower_4 : decode prog_6_method_5_code 4 = .ok (.ifCond .ne 36, 3) := by decide +kernel
theorem d_Reckoner_lower_7 : decode prog_6_method_5_code 7 = .ok (.aload_n 0, 1) := by decide +kernel
theorem d_Reckoner_lower_8 : decode prog_6_method_5_code 8 = .ok (.getfield 18, 3) := by decide +kernel
theorem d_Reckoner_lower_11 : decode prog_6_method_5_code 11 = .ok (.ifCond .le 29, 3) := by decide +kernel
theorem d_Reckoner_lower_14 : decode prog_6_method_5_code 14 = .ok (.aload_n 0, 1) := by decide +kernel
theorem d_Reckoner_lower_15 : decode prog_6_method_5_code 15 = .ok (.getfield 18, 3) := by decide +kernel
theorem d_Reckoner_lower_18 : decode prog_6_method_5_code 18 = .ok (.aload_n 0, 1) := by decide +kernel
theorem d_Reckoner_lower_19 : decode prog_6_method_5_code 19 = .ok (.getfield 15, 3) := by decide +kernel
theorem d_Reckoner_lower_22 : decode prog_6_method_5_code 22 = .ok (.arraylength, 1) := by decide +kernel
theorem d_Reckoner_lower_23 : decode prog_6_method_5_code 23 = .ok (.if_icmp .gt 17, 3) := by decide +kernel
theorem d_Reckoner_lower_26 : decode prog_6_method_5_code 26 = .ok (.aload_n 0, 1) := by decide +kernel
theorem d_Reckoner_lower_27 : decode prog_6_method_5_code 27 = .ok (.getfield 15, 3) := by decide +kernel
theorem d_Reckoner_lower_30 : decode prog_6_method_5_code 30 = .ok (.aload_n 0, 1) := by decide +kernel
theorem d_Reckoner_lower_31 : decode prog_6_method_5_code 31 = .ok (.getfield 18, 3) := by decide +kernel
theorem d_Reckoner_lower_34 : decode prog_6_method_5_code 34 = .ok (.iconst 1, 1) := by decide +kernel
theorem d_Reckoner_lower_35 : decode prog_6_method_5_code 35 = .ok (.isub, 1) := by decide +kernel
theorem d_Reckoner_lower_36 : decode prog_6_method_5_code 36 = .ok (.laload, 1) := by decide +kernel
theorem d_Reckoner_lower_37 : decode prog_6_method_5_code 37 = .ok (.goto 4, 3) := by decide +kernel
theorem d_Reckoner_lower_40 : decode prog_6_method_5_code 40 = .ok (.lconst 0, 1) := by decide +kernel
theorem d_Reckoner_lower_41 : decode prog_6_method_5_code 41 = .ok (.lreturn, 1) := by decide +kernel
abbrev y_Reckoner_restart : MethodName := ⟨"PermitRules$Reckoner", "restart", "()V"⟩
abbrev cw_Reckoner_restart : Cond := .code y_Reckoner_restart prog_6_method_2_code 1 none
theorem d_Reckoner_restart_0 : decode prog_6_method_2_code 0 = .ok (.aload_n 0, 1) := by decide +kernel
theorem d_Reckoner_restart_1 : decode prog_6_method_2_code 1 = .ok (.iconst 0, 1) := by decide +kernel
theorem d_Reckoner_restart_2 : decode prog_6_method_2_code 2 = .ok (.putfield 22, 3) := by decide +kernel
theorem d_Reckoner_restart_5 : decode prog_6_method_2_code 5 = .ok (.aload_n 0, 1) := by decide +kernel
theorem d_Reckoner_restart_6 : decode prog_6_method_2_code 6 = .ok (.lconst 0, 1) := by decide +kernel
theorem d_Reckoner_restart_7 : decode prog_6_method_2_code 7 = .ok (.putfield 25, 3) := by decide +kernel
theorem d_Reckoner_restart_10 : decode prog_6_method_2_code 10 = .ok (.return_, 1) := by decide +kernel
abbrev y_Reckoner_product : MethodName := ⟨"PermitRules$Reckoner", "product", "(JJ)J"⟩
abbrev cw_Reckoner_product : Cond := .code y_Reckoner_product prog_6_method_6_code 8 (some .long)
theorem d_Reckoner_product_0 : decode prog_6_method_6_code 0 = .ok (.lload_n 1, 1) := by decide +kernel
theorem d_Reckoner_product_1 : decode prog_6_method_6_code 1 = .ok (.lconst 0, 1) := by decide +kernel
theorem d_Reckoner_product_2 : decode prog_6_method_6_code 2 = .ok (.lcmp, 1) := by decide +kernel
theorem d_Reckoner_product_3 : decode prog_6_method_6_code 3 = .ok (.ifCond .eq 9, 3) := by decide +kernel
theorem d_Reckoner_product_6 : decode prog_6_method_6_code 6 = .ok (.lload_n 3, 1) := by decide +kernel
theorem d_Reckoner_product_7 : decode prog_6_method_6_code 7 = .ok (.lconst 0, 1) := by decide +kernel
theorem d_Reckoner_product_8 : decode prog_6_method_6_code 8 = .ok (.lcmp, 1) := by decide +kernel
theorem d_Reckoner_product_9 : decode prog_6_method_6_code 9 = .ok (.ifCond .ne 5, 3) := by decide +kernel
theorem d_Reckoner_product_12 : decode prog_6_method_6_code 12 = .ok (.lconst 0, 1) := by decide +kernel
theorem d_Reckoner_product_13 : decode prog_6_method_6_code 13 = .ok (.lreturn, 1) := by decide +kernel
theorem d_Reckoner_product_14 : decode prog_6_method_6_code 14 = .ok (.lload_n 1, 1) := by decide +kernel
theorem d_Reckoner_product_15 : decode prog_6_method_6_code 15 = .ok (.lload_n 3, 1) := by decide +kernel
theorem d_Reckoner_product_16 : decode prog_6_method_6_code 16 = .ok (.lmul, 1) := by decide +kernel
theorem d_Reckoner_product_17 : decode prog_6_method_6_code 17 = .ok (.lstore 5, 2) := by decide +kernel
theorem d_Reckoner_product_19 : decode prog_6_method_6_code 19 = .ok (.lload_n 3, 1) := by decide +kernel
theorem d_Reckoner_product_20 : decode prog_6_method_6_code 20 = .ok (.ldc2_w 51, 3) := by decide +kernel
theorem d_Reckoner_product_23 : decode prog_6_method_6_code 23 = .ok (.lcmp, 1) := by decide +kernel
theorem d_Reckoner_product_24 : decode prog_6_method_6_code 24 = .ok (.ifCond .ne 19, 3) := by decide +kernel
theorem d_Reckoner_product_27 : decode prog_6_method_6_code 27 = .ok (.lload_n 1, 1) := by decide +kernel
theorem d_Reckoner_product_28 : decode prog_6_method_6_code 28 = .ok (.ldc2_w 53, 3) := by decide +kernel
theorem d_Reckoner_product_31 : decode prog_6_method_6_code 31 = .ok (.lcmp, 1) := by decide +kernel
theorem d_Reckoner_product_32 : decode prog_6_method_6_code 32 = .ok (.ifCond .eq 7, 3) := by decide +kernel
theorem d_Reckoner_product_35 : decode prog_6_method_6_code 35 = .ok (.iconst 1, 1) := by decide +kernel
theorem d_Reckoner_product_36 : decode prog_6_method_6_code 36 = .ok (.goto 21, 3) := by decide +kernel
theorem d_Reckoner_product_39 : decode prog_6_method_6_code 39 = .ok (.iconst 0, 1) := by decide +kernel
theorem d_Reckoner_product_40 : decode prog_6_method_6_code 40 = .ok (.goto 17, 3) := by decide +kernel
theorem d_Reckoner_product_43 : decode prog_6_method_6_code 43 = .ok (.lload 5, 2) := by decide +kernel
theorem d_Reckoner_product_45 : decode prog_6_method_6_code 45 = .ok (.lload_n 3, 1) := by decide +kernel
theorem d_Reckoner_product_46 : decode prog_6_method_6_code 46 = .ok (.ldiv, 1) := by decide +kernel
theorem d_Reckoner_product_47 : decode prog_6_method_6_code 47 = .ok (.lload_n 1, 1) := by decide +kernel
theorem d_Reckoner_product_48 : decode prog_6_method_6_code 48 = .ok (.lcmp, 1) := by decide +kernel
theorem d_Reckoner_product_49 : decode prog_6_method_6_code 49 = .ok (.ifCond .ne 7, 3) := by decide +kernel
theorem d_Reckoner_product_52 : decode prog_6_method_6_code 52 = .ok (.iconst 1, 1) := by decide +kernel
theorem d_Reckoner_product_53 : decode prog_6_method_6_code 53 = .ok (.goto 4, 3) := by decide +kernel
theorem d_Reckoner_product_56 : decode prog_6_method_6_code 56 = .ok (.iconst 0, 1) := by decide +kernel
theorem d_Reckoner_product_57 : decode prog_6_method_6_code 57 = .ok (.istore 7, 2) := by decide +kernel
theorem d_Reckoner_product_59 : decode prog_6_method_6_code 59 = .ok (.iload 7, 2) := by decide +kernel
theorem d_Reckoner_product_61 : decode prog_6_method_6_code 61 = .ok (.ifCond .ne 8, 3) := by decide +kernel
theorem d_Reckoner_product_64 : decode prog_6_method_6_code 64 = .ok (.aload_n 0, 1) := by decide +kernel
theorem d_Reckoner_product_65 : decode prog_6_method_6_code 65 = .ok (.iconst 2, 1) := by decide +kernel
theorem d_Reckoner_product_66 : decode prog_6_method_6_code 66 = .ok (.putfield 22, 3) := by decide +kernel
theorem d_Reckoner_product_69 : decode prog_6_method_6_code 69 = .ok (.lload 5, 2) := by decide +kernel
theorem d_Reckoner_product_71 : decode prog_6_method_6_code 71 = .ok (.lreturn, 1) := by decide +kernel
abbrev y_Reckoner_sum : MethodName := ⟨"PermitRules$Reckoner", "sum", "(JJ)J"⟩
abbrev cw_Reckoner_sum : Cond := .code y_Reckoner_sum prog_6_method_7_code 7 (some .long)
theorem d_Reckoner_sum_0 : decode prog_6_method_7_code 0 = .ok (.lload_n 1, 1) := by decide +kernel
theorem d_Reckoner_sum_1 : decode prog_6_method_7_code 1 = .ok (.lload_n 3, 1) := by decide +kernel
theorem d_Reckoner_sum_2 : decode prog_6_method_7_code 2 = .ok (.ladd, 1) := by decide +kernel
theorem d_Reckoner_sum_3 : decode prog_6_method_7_code 3 = .ok (.lstore 5, 2) := by decide +kernel
theorem d_Reckoner_sum_5 : decode prog_6_method_7_code 5 = .ok (.lload_n 1, 1) := by decide +kernel
theorem d_Reckoner_sum_6 : decode prog_6_method_7_code 6 = .ok (.lload 5, 2) := by decide +kernel
theorem d_Reckoner_sum_8 : decode prog_6_method_7_code 8 = .ok (.lxor, 1) := by decide +kernel
theorem d_Reckoner_sum_9 : decode prog_6_method_7_code 9 = .ok (.lload_n 3, 1) := by decide +kernel
theorem d_Reckoner_sum_10 : decode prog_6_method_7_code 10 = .ok (.lload 5, 2) := by decide +kernel
theorem d_Reckoner_sum_12 : decode prog_6_method_7_code 12 = .ok (.lxor, 1) := by decide +kernel
theorem d_Reckoner_sum_13 : decode prog_6_method_7_code 13 = .ok (.land, 1) := by decide +kernel
theorem d_Reckoner_sum_14 : decode prog_6_method_7_code 14 = .ok (.lconst 0, 1) := by decide +kernel
theorem d_Reckoner_sum_15 : decode prog_6_method_7_code 15 = .ok (.lcmp, 1) := by decide +kernel
theorem d_Reckoner_sum_16 : decode prog_6_method_7_code 16 = .ok (.ifCond .ge 8, 3) := by decide +kernel
theorem d_Reckoner_sum_19 : decode prog_6_method_7_code 19 = .ok (.aload_n 0, 1) := by decide +kernel
theorem d_Reckoner_sum_20 : decode prog_6_method_7_code 20 = .ok (.iconst 2, 1) := by decide +kernel
theorem d_Reckoner_sum_21 : decode prog_6_method_7_code 21 = .ok (.putfield 22, 3) := by decide +kernel
theorem d_Reckoner_sum_24 : decode prog_6_method_7_code 24 = .ok (.lload 5, 2) := by decide +kernel
theorem d_Reckoner_sum_26 : decode prog_6_method_7_code 26 = .ok (.lreturn, 1) := by decide +kernel
abbrev y_Reckoner_difference : MethodName := ⟨"PermitRules$Reckoner", "difference", "(JJ)J"⟩
abbrev cw_Reckoner_difference : Cond := .code y_Reckoner_difference prog_6_method_8_code 7 (some .long)
theorem d_Reckoner_difference_0 : decode prog_6_method_8_code 0 = .ok (.lload_n 1, 1) := by decide +kernel
theorem d_Reckoner_difference_1 : decode prog_6_method_8_code 1 = .ok (.lload_n 3, 1) := by decide +kernel
theorem d_Reckoner_difference_2 : decode prog_6_method_8_code 2 = .ok (.lsub, 1) := by decide +kernel
theorem d_Reckoner_difference_3 : decode prog_6_method_8_code 3 = .ok (.lstore 5, 2) := by decide +kernel
theorem d_Reckoner_difference_5 : decode prog_6_method_8_code 5 = .ok (.lload_n 1, 1) := by decide +kernel
theorem d_Reckoner_difference_6 : decode prog_6_method_8_code 6 = .ok (.lload_n 3, 1) := by decide +kernel
theorem d_Reckoner_difference_7 : decode prog_6_method_8_code 7 = .ok (.lxor, 1) := by decide +kernel
theorem d_Reckoner_difference_8 : decode prog_6_method_8_code 8 = .ok (.lload_n 1, 1) := by decide +kernel
theorem d_Reckoner_difference_9 : decode prog_6_method_8_code 9 = .ok (.lload 5, 2) := by decide +kernel
theorem d_Reckoner_difference_11 : decode prog_6_method_8_code 11 = .ok (.lxor, 1) := by decide +kernel
theorem d_Reckoner_difference_12 : decode prog_6_method_8_code 12 = .ok (.land, 1) := by decide +kernel
theorem d_Reckoner_difference_13 : decode prog_6_method_8_code 13 = .ok (.lconst 0, 1) := by decide +kernel
theorem d_Reckoner_difference_14 : decode prog_6_method_8_code 14 = .ok (.lcmp, 1) := by decide +kernel
theorem d_Reckoner_difference_15 : decode prog_6_method_8_code 15 = .ok (.ifCond .ge 8, 3) := by decide +kernel
theorem d_Reckoner_difference_18 : decode prog_6_method_8_code 18 = .ok (.aload_n 0, 1) := by decide +kernel
theorem d_Reckoner_difference_19 : decode prog_6_method_8_code 19 = .ok (.iconst 2, 1) := by decide +kernel
theorem d_Reckoner_difference_20 : decode prog_6_method_8_code 20 = .ok (.putfield 22, 3) := by decide +kernel
theorem d_Reckoner_difference_23 : decode prog_6_method_8_code 23 = .ok (.lload 5, 2) := by decide +kernel
theorem d_Reckoner_difference_25 : decode prog_6_method_8_code 25 = .ok (.lreturn, 1) := by decide +kernel
abbrev y_Reckoner_push : MethodName := ⟨"PermitRules$Reckoner", "push", "(JJ)V"⟩
abbrev cw_Reckoner_push : Cond := .code y_Reckoner_push prog_6_method_9_code 5 none
theorem d_Reckoner_push_0 : decode prog_6_method_9_code 0 = .ok (.aload_n 0, 1) := by decide +kernel
theorem d_Reckoner_push_1 : decode prog_6_method_9_code 1 = .ok (.getfield 18, 3) := by decide +kernel
theorem d_Reckoner_push_4 : decode prog_6_method_9_code 4 = .ok (.ifCond .lt 57, 3) := by decide +kernel
theorem d_Reckoner_push_7 : decode prog_6_method_9_code 7 = .ok (.aload_n 0, 1) := by decide +kernel
theorem d_Reckoner_push_8 : decode prog_6_method_9_code 8 = .ok (.getfield 18, 3) := by decide +kernel
theorem d_Reckoner_push_11 : decode prog_6_method_9_code 11 = .ok (.aload_n 0, 1) := by decide +kernel
theorem d_Reckoner_push_12 : decode prog_6_method_9_code 12 = .ok (.getfield 9, 3) := by decide +kernel
theorem d_Reckoner_push_15 : decode prog_6_method_9_code 15 = .ok (.arraylength, 1) := by decide +kernel
theorem d_Reckoner_push_16 : decode prog_6_method_9_code 16 = .ok (.if_icmp .ge 45, 3) := by decide +kernel
theorem d_Reckoner_push_19 : decode prog_6_method_9_code 19 = .ok (.aload_n 0, 1) := by decide +kernel
theorem d_Reckoner_push_20 : decode prog_6_method_9_code 20 = .ok (.getfield 18, 3) := by decide +kernel
theorem d_Reckoner_push_23 : decode prog_6_method_9_code 23 = .ok (.aload_n 0, 1) := by decide +kernel
theorem d_Reckoner_push_24 : decode prog_6_method_9_code 24 = .ok (.getfield 15, 3) := by decide +kernel
theorem d_Reckoner_push_27 : decode prog_6_method_9_code 27 = .ok (.arraylength, 1) := by decide +kernel
theorem d_Reckoner_push_28 : decode prog_6_method_9_code 28 = .ok (.if_icmp .ge 33, 3) := by decide +kernel
theorem d_Reckoner_push_31 : decode prog_6_method_9_code 31 = .ok (.aload_n 0, 1) := by decide +kernel
theorem d_Reckoner_push_32 : decode prog_6_method_9_code 32 = .ok (.getfield 9, 3) := by decide +kernel
theorem d_Reckoner_push_35 : decode prog_6_method_9_code 35 = .ok (.aload_n 0, 1) := by decide +kernel
theorem d_Reckoner_push_36 : decode prog_6_method_9_code 36 = .ok (.getfield 18, 3) := by decide +kernel
theorem d_Reckoner_push_39 : decode prog_6_method_9_code 39 = .ok (.lload_n 1, 1) := by decide +kernel
theorem d_Reckoner_push_40 : decode prog_6_method_9_code 40 = .ok (.lastore, 1) := by decide +kernel
theorem d_Reckoner_push_41 : decode prog_6_method_9_code 41 = .ok (.aload_n 0, 1) := by decide +kernel
theorem d_Reckoner_push_42 : decode prog_6_method_9_code 42 = .ok (.getfield 15, 3) := by decide +kernel
theorem d_Reckoner_push_45 : decode prog_6_method_9_code 45 = .ok (.aload_n 0, 1) := by decide +kernel
theorem d_Reckoner_push_46 : decode prog_6_method_9_code 46 = .ok (.getfield 18, 3) := by decide +kernel
theorem d_Reckoner_push_49 : decode prog_6_method_9_code 49 = .ok (.lload_n 3, 1) := by decide +kernel
theorem d_Reckoner_push_50 : decode prog_6_method_9_code 50 = .ok (.lastore, 1) := by decide +kernel
theorem d_Reckoner_push_51 : decode prog_6_method_9_code 51 = .ok (.aload_n 0, 1) := by decide +kernel
theorem d_Reckoner_push_52 : decode prog_6_method_9_code 52 = .ok (.dup, 1) := by decide +kernel
theorem d_Reckoner_push_53 : decode prog_6_method_9_code 53 = .ok (.getfield 18, 3) := by decide +kernel
theorem d_Reckoner_push_56 : decode prog_6_method_9_code 56 = .ok (.iconst 1, 1) := by decide +kernel
theorem d_Reckoner_push_57 : decode prog_6_method_9_code 57 = .ok (.iadd, 1) := by decide +kernel
theorem d_Reckoner_push_58 : decode prog_6_method_9_code 58 = .ok (.putfield 18, 3) := by decide +kernel
theorem d_Reckoner_push_61 : decode prog_6_method_9_code 61 = .ok (.return_, 1) := by decide +kernel
abbrev y_Reckoner_pushFact : MethodName := ⟨"PermitRules$Reckoner", "pushFact", "(LPermitRules$Facts;J)V"⟩
abbrev cw_Reckoner_pushFact : Cond := .code y_Reckoner_pushFact prog_6_method_10_code 5 none
theorem d_Reckoner_pushFact_0 : decode prog_6_method_10_code 0 = .ok (.aload_n 1, 1) := by decide +kernel
theorem d_Reckoner_pushFact_1 : decode prog_6_method_10_code 1 = .ok (.lload_n 2, 1) := by decide +kernel
theorem d_Reckoner_pushFact_2 : decode prog_6_method_10_code 2 = .ok (.invokevirtual 55, 3) := by decide +kernel
theorem d_Reckoner_pushFact_5 : decode prog_6_method_10_code 5 = .ok (.istore 4, 2) := by decide +kernel
theorem d_Reckoner_pushFact_7 : decode prog_6_method_10_code 7 = .ok (.iload 4, 2) := by decide +kernel
theorem d_Reckoner_pushFact_9 : decode prog_6_method_10_code 9 = .ok (.iconst (-1), 1) := by decide +kernel
theorem d_Reckoner_pushFact_10 : decode prog_6_method_10_code 10 = .ok (.if_icmp .ne 16, 3) := by decide +kernel
theorem d_Reckoner_pushFact_13 : decode prog_6_method_10_code 13 = .ok (.aload_n 0, 1) := by decide +kernel
theorem d_Reckoner_pushFact_14 : decode prog_6_method_10_code 14 = .ok (.iconst 1, 1) := by decide +kernel
theorem d_Reckoner_pushFact_15 : decode prog_6_method_10_code 15 = .ok (.putfield 22, 3) := by decide +kernel
theorem d_Reckoner_pushFact_18 : decode prog_6_method_10_code 18 = .ok (.aload_n 0, 1) := by decide +kernel
theorem d_Reckoner_pushFact_19 : decode prog_6_method_10_code 19 = .ok (.lload_n 2, 1) := by decide +kernel
theorem d_Reckoner_pushFact_20 : decode prog_6_method_10_code 20 = .ok (.putfield 25, 3) := by decide +kernel
theorem d_Reckoner_pushFact_23 : decode prog_6_method_10_code 23 = .ok (.goto 15, 3) := by decide +kernel
theorem d_Reckoner_pushFact_26 : decode prog_6_method_10_code 26 = .ok (.aload_n 0, 1) := by decide +kernel
theorem d_Reckoner_pushFact_27 : decode prog_6_method_10_code 27 = .ok (.aload_n 1, 1) := by decide +kernel
theorem d_Reckoner_pushFact_28 : decode prog_6_method_10_code 28 = .ok (.iload 4, 2) := by decide +kernel
theorem d_Reckoner_pushFact_30 : decode prog_6_method_10_code 30 = .ok (.invokevirtual 61, 3) := by decide +kernel
theorem d_Reckoner_pushFact_33 : decode prog_6_method_10_code 33 = .ok (.i2l, 1) := by decide +kernel
theorem d_Reckoner_pushFact_34 : decode prog_6_method_10_code 34 = .ok (.lconst 1, 1) := by decide +kernel
theorem d_Reckoner_pushFact_35 : decode prog_6_method_10_code 35 = .ok (.invokevirtual 39, 3) := by decide +kernel
theorem d_Reckoner_pushFact_38 : decode prog_6_method_10_code 38 = .ok (.return_, 1) := by decide +kernel
abbrev y_Reckoner_commonDivisor : MethodName := ⟨"PermitRules$Reckoner", "commonDivisor", "(JJ)J"⟩
abbrev cw_Reckoner_commonDivisor : Cond := .code y_Reckoner_commonDivisor prog_6_method_13_code 11 (some .long)
theorem d_Reckoner_commonDivisor_0 : decode prog_6_method_13_code 0 = .ok (.lload_n 0, 1) := by decide +kernel
theorem d_Reckoner_commonDivisor_1 : decode prog_6_method_13_code 1 = .ok (.lconst 0, 1) := by decide +kernel
theorem d_Reckoner_commonDivisor_2 : decode prog_6_method_13_code 2 = .ok (.lcmp, 1) := by decide +kernel
theorem d_Reckoner_commonDivisor_3 : decode prog_6_method_13_code 3 = .ok (.ifCond .le 8, 3) := by decide +kernel
theorem d_Reckoner_commonDivisor_6 : decode prog_6_method_13_code 6 = .ok (.lload_n 0, 1) := by decide +kernel
theorem d_Reckoner_commonDivisor_7 : decode prog_6_method_13_code 7 = .ok (.lneg, 1) := by decide +kernel
theorem d_Reckoner_commonDivisor_8 : decode prog_6_method_13_code 8 = .ok (.goto 4, 3) := by decide +kernel
theorem d_Reckoner_commonDivisor_11 : decode prog_6_method_13_code 11 = .ok (.lload_n 0, 1) := by decide +kernel
theorem d_Reckoner_commonDivisor_12 : decode prog_6_method_13_code 12 = .ok (.lstore 4, 2) := by decide +kernel
theorem d_Reckoner_commonDivisor_14 : decode prog_6_method_13_code 14 = .ok (.lload_n 2, 1) := by decide +kernel
theorem d_Reckoner_commonDivisor_15 : decode prog_6_method_13_code 15 = .ok (.lconst 0, 1) := by decide +kernel
theorem d_Reckoner_commonDivisor_16 : decode prog_6_method_13_code 16 = .ok (.lcmp, 1) := by decide +kernel
theorem d_Reckoner_commonDivisor_17 : decode prog_6_method_13_code 17 = .ok (.ifCond .le 8, 3) := by decide +kernel
theorem d_Reckoner_commonDivisor_20 : decode prog_6_method_13_code 20 = .ok (.lload_n 2, 1) := by decide +kernel
theorem d_Reckoner_commonDivisor_21 : decode prog_6_method_13_code 21 = .ok (.lneg, 1) := by decide +kernel
theorem d_Reckoner_commonDivisor_22 : decode prog_6_method_13_code 22 = .ok (.goto 4, 3) := by decide +kernel
theorem d_Reckoner_commonDivisor_25 : decode prog_6_method_13_code 25 = .ok (.lload_n 2, 1) := by decide +kernel
theorem d_Reckoner_commonDivisor_26 : decode prog_6_method_13_code 26 = .ok (.lstore 6, 2) := by decide +kernel
theorem d_Reckoner_commonDivisor_28 : decode prog_6_method_13_code 28 = .ok (.iconst 0, 1) := by decide +kernel
theorem d_Reckoner_commonDivisor_29 : decode prog_6_method_13_code 29 = .ok (.istore 8, 2) := by decide +kernel
theorem d_Reckoner_commonDivisor_31 : decode prog_6_method_13_code 31 = .ok (.iload 8, 2) := by decide +kernel
theorem d_Reckoner_commonDivisor_33 : decode prog_6_method_13_code 33 = .ok (.sipush 128, 3) := by decide +kernel
theorem d_Reckoner_commonDivisor_36 : decode prog_6_method_13_code 36 = .ok (.if_icmp .ge 31, 3) := by decide +kernel
theorem d_Reckoner_commonDivisor_39 : decode prog_6_method_13_code 39 = .ok (.lload 6, 2) := by decide +kernel
theorem d_Reckoner_commonDivisor_41 : decode prog_6_method_13_code 41 = .ok (.lconst 0, 1) := by decide +kernel
theorem d_Reckoner_commonDivisor_42 : decode prog_6_method_13_code 42 = .ok (.lcmp, 1) := by decide +kernel
theorem d_Reckoner_commonDivisor_43 : decode prog_6_method_13_code 43 = .ok (.ifCond .eq 24, 3) := by decide +kernel
theorem d_Reckoner_commonDivisor_46 : decode prog_6_method_13_code 46 = .ok (.lload 4, 2) := by decide +kernel
theorem d_Reckoner_commonDivisor_48 : decode prog_6_method_13_code 48 = .ok (.lload 6, 2) := by decide +kernel
theorem d_Reckoner_commonDivisor_50 : decode prog_6_method_13_code 50 = .ok (.lrem, 1) := by decide +kernel
theorem d_Reckoner_commonDivisor_51 : decode prog_6_method_13_code 51 = .ok (.lstore 9, 2) := by decide +kernel
theorem d_Reckoner_commonDivisor_53 : decode prog_6_method_13_code 53 = .ok (.lload 6, 2) := by decide +kernel
theorem d_Reckoner_commonDivisor_55 : decode prog_6_method_13_code 55 = .ok (.lstore 4, 2) := by decide +kernel
theorem d_Reckoner_commonDivisor_57 : decode prog_6_method_13_code 57 = .ok (.lload 9, 2) := by decide +kernel
theorem d_Reckoner_commonDivisor_59 : decode prog_6_method_13_code 59 = .ok (.lstore 6, 2) := by decide +kernel
theorem d_Reckoner_commonDivisor_61 : decode prog_6_method_13_code 61 = .ok (.iinc 8 1, 3) := by decide +kernel
theorem d_Reckoner_commonDivisor_64 : decode prog_6_method_13_code 64 = .ok (.goto (-33), 3) := by decide +kernel
theorem d_Reckoner_commonDivisor_67 : decode prog_6_method_13_code 67 = .ok (.lload 4, 2) := by decide +kernel
theorem d_Reckoner_commonDivisor_69 : decode prog_6_method_13_code 69 = .ok (.lreturn, 1) := by decide +kernel
abbrev y_Reckoner_settle : MethodName := ⟨"PermitRules$Reckoner", "settle", "(JJ)V"⟩
abbrev cw_Reckoner_settle : Cond := .code y_Reckoner_settle prog_6_method_12_code 9 none
theorem d_Reckoner_settle_0 : decode prog_6_method_12_code 0 = .ok (.aload_n 0, 1) := by decide +kernel
theorem d_Reckoner_settle_1 : decode prog_6_method_12_code 1 = .ok (.getfield 22, 3) := by decide +kernel
theorem d_Reckoner_settle_4 : decode prog_6_method_12_code 4 = .ok (.ifCond .ne 9, 3) := by decide +kernel
theorem d_Reckoner_settle_7 : decode prog_6_method_12_code 7 = .ok (.lload_n 3, 1) := by decide +kernel
theorem d_Reckoner_settle_8 : decode prog_6_method_12_code 8 = .ok (.lconst 0, 1) := by decide +kernel
theorem d_Reckoner_settle_9 : decode prog_6_method_12_code 9 = .ok (.lcmp, 1) := by decide +kernel
theorem d_Reckoner_settle_10 : decode prog_6_method_12_code 10 = .ok (.ifCond .ne 4, 3) := by decide +kernel
theorem d_Reckoner_settle_13 : decode prog_6_method_12_code 13 = .ok (.return_, 1) := by decide +kernel
theorem d_Reckoner_settle_14 : decode prog_6_method_12_code 14 = .ok (.lload_n 1, 1) := by decide +kernel
theorem d_Reckoner_settle_15 : decode prog_6_method_12_code 15 = .ok (.lload_n 3, 1) := by decide +kernel
theorem d_Reckoner_settle_16 : decode prog_6_method_12_code 16 = .ok (.invokestatic 84, 3) := by decide +kernel
theorem d_Reckoner_settle_19 : decode prog_6_method_12_code 19 = .ok (.lstore 5, 2) := by decide +kernel
theorem d_Reckoner_settle_21 : decode prog_6_method_12_code 21 = .ok (.lload_n 3, 1) := by decide +kernel
theorem d_Reckoner_settle_22 : decode prog_6_method_12_code 22 = .ok (.lconst 0, 1) := by decide +kernel
theorem d_Reckoner_settle_23 : decode prog_6_method_12_code 23 = .ok (.lcmp, 1) := by decide +kernel
theorem d_Reckoner_settle_24 : decode prog_6_method_12_code 24 = .ok (.ifCond .ge 8, 3) := by decide +kernel
theorem d_Reckoner_settle_27 : decode prog_6_method_12_code 27 = .ok (.lload 5, 2) := by decide +kernel
theorem d_Reckoner_settle_29 : decode prog_6_method_12_code 29 = .ok (.goto 6, 3) := by decide +kernel
theorem d_Reckoner_settle_32 : decode prog_6_method_12_code 32 = .ok (.lload 5, 2) := by decide +kernel
theorem d_Reckoner_settle_34 : decode prog_6_method_12_code 34 = .ok (.lneg, 1) := by decide +kernel
theorem d_Reckoner_settle_35 : decode prog_6_method_12_code 35 = .ok (.lstore 7, 2) := by decide +kernel
theorem d_Reckoner_settle_37 : decode prog_6_method_12_code 37 = .ok (.lload 7, 2) := by decide +kernel
theorem d_Reckoner_settle_39 : decode prog_6_method_12_code 39 = .ok (.ldc2_w 51, 3) := by decide +kernel
theorem d_Reckoner_settle_42 : decode prog_6_method_12_code 42 = .ok (.lcmp, 1) := by decide +kernel
theorem d_Reckoner_settle_43 : decode prog_6_method_12_code 43 = .ok (.ifCond .ne 27, 3) := by decide +kernel
theorem d_Reckoner_settle_46 : decode prog_6_method_12_code 46 = .ok (.lload_n 1, 1) := by decide +kernel
theorem d_Reckoner_settle_47 : decode prog_6_method_12_code 47 = .ok (.ldc2_w 53, 3) := by decide +kernel
theorem d_Reckoner_settle_50 : decode prog_6_method_12_code 50 = .ok (.lcmp, 1) := by decide +kernel
theorem d_Reckoner_settle_51 : decode prog_6_method_12_code 51 = .ok (.ifCond .eq 11, 3) := by decide +kernel
theorem d_Reckoner_settle_54 : decode prog_6_method_12_code 54 = .ok (.lload_n 3, 1) := by decide +kernel
theorem d_Reckoner_settle_55 : decode prog_6_method_12_code 55 = .ok (.ldc2_w 53, 3) := by decide +kernel
theorem d_Reckoner_settle_58 : decode prog_6_method_12_code 58 = .ok (.lcmp, 1) := by decide +kernel
theorem d_Reckoner_settle_59 : decode prog_6_method_12_code 59 = .ok (.ifCond .ne 11, 3) := by decide +kernel
theorem d_Reckoner_settle_62 : decode prog_6_method_12_code 62 = .ok (.aload_n 0, 1) := by decide +kernel
theorem d_Reckoner_settle_63 : decode prog_6_method_12_code 63 = .ok (.iconst 2, 1) := by decide +kernel
theorem d_Reckoner_settle_64 : decode prog_6_method_12_code 64 = .ok (.putfield 22, 3) := by decide +kernel
theorem d_Reckoner_settle_67 : decode prog_6_method_12_code 67 = .ok (.goto 22, 3) := by decide +kernel
theorem d_Reckoner_settle_70 : decode prog_6_method_12_code 70 = .ok (.lload 7, 2) := by decide +kernel
theorem d_Reckoner_settle_72 : decode prog_6_method_12_code 72 = .ok (.lconst 0, 1) := by decide +kernel
theorem d_Reckoner_settle_73 : decode prog_6_method_12_code 73 = .ok (.lcmp, 1) := by decide +kernel
theorem d_Reckoner_settle_74 : decode prog_6_method_12_code 74 = .ok (.ifCond .eq 15, 3) := by decide +kernel
theorem d_Reckoner_settle_77 : decode prog_6_method_12_code 77 = .ok (.aload_n 0, 1) := by decide +kernel
theorem d_Reckoner_settle_78 : decode prog_6_method_12_code 78 = .ok (.lload_n 1, 1) := by decide +kernel
theorem d_Reckoner_settle_79 : decode prog_6_method_12_code 79 = .ok (.lload 7, 2) := by decide +kernel
theorem d_Reckoner_settle_81 : decode prog_6_method_12_code 81 = .ok (.ldiv, 1) := by decide +kernel
theorem d_Reckoner_settle_82 : decode prog_6_method_12_code 82 = .ok (.lload_n 3, 1) := by decide +kernel
theorem d_Reckoner_settle_83 : decode prog_6_method_12_code 83 = .ok (.lload 7, 2) := by decide +kernel
theorem d_Reckoner_settle_85 : decode prog_6_method_12_code 85 = .ok (.ldiv, 1) := by decide +kernel
theorem d_Reckoner_settle_86 : decode prog_6_method_12_code 86 = .ok (.invokevirtual 39, 3) := by decide +kernel
theorem d_Reckoner_settle_89 : decode prog_6_method_12_code 89 = .ok (.return_, 1) := by decide +kernel
abbrev y_Reckoner_join : MethodName := ⟨"PermitRules$Reckoner", "join", "(I)V"⟩
abbrev cw_Reckoner_join : Cond := .code y_Reckoner_join prog_6_method_11_code 10 none
theorem d_Reckoner_join_0 : decode prog_6_method_11_code 0 = .ok (.lconst 0, 1) := by decide +kernel
theorem d_Reckoner_join_1 : decode prog_6_method_11_code 1 = .ok (.lstore_n 2, 1) := by decide +kernel
theorem d_Reckoner_join_2 : decode prog_6_method_11_code 2 = .ok (.lconst 1, 1) := by decide +kernel
theorem d_Reckoner_join_3 : decode prog_6_method_11_code 3 = .ok (.lstore 4, 2) := by decide +kernel
theorem d_Reckoner_join_5 : decode prog_6_method_11_code 5 = .ok (.aload_n 0, 1) := by decide +kernel
theorem d_Reckoner_join_6 : decode prog_6_method_11_code 6 = .ok (.invokevirtual 64, 3) := by decide +kernel
theorem d_Reckoner_join_9 : decode prog_6_method_11_code 9 = .ok (.lstore 6, 2) := by decide +kernel
theorem d_Reckoner_join_11 : decode prog_6_method_11_code 11 = .ok (.aload_n 0, 1) := by decide +kernel
theorem d_Reckoner_join_12 : decode prog_6_method_11_code 12 = .ok (.invokevirtual 68, 3) := by decide +kernel
theorem d_Reckoner_join_15 : decode prog_6_method_11_code 15 = .ok (.lstore 8, 2) := by decide +kernel
theorem d_Reckoner_join_17 : decode prog_6_method_11_code 17 = .ok (.aload_n 0, 1) := by decide +kernel
theorem d_Reckoner_join_18 : decode prog_6_method_11_code 18 = .ok (.dup, 1) := by decide +kernel
theorem d_Reckoner_join_19 : decode prog_6_method_11_code 19 = .ok (.getfield 18, 3) := by decide +kernel
theorem d_Reckoner_join_22 : decode prog_6_method_11_code 22 = .ok (.iconst 1, 1) := by decide +kernel
theorem d_Reckoner_join_23 : decode prog_6_method_11_code 23 = .ok (.isub, 1) := by decide +kernel
theorem d_Reckoner_join_24 : decode prog_6_method_11_code 24 = .ok (.putfield 18, 3) := by decide +kernel
theorem d_Reckoner_join_27 : decode prog_6_method_11_code 27 = .ok (.iload_n 1, 1) := by decide +kernel
theorem d_Reckoner_join_28 : decode prog_6_method_11_code 28 = .ok (.bipush 6, 2) := by decide +kernel
theorem d_Reckoner_join_30 : decode prog_6_method_11_code 30 = .ok (.if_icmp .eq 24, 3) := by decide +kernel
theorem d_Reckoner_join_33 : decode prog_6_method_11_code 33 = .ok (.aload_n 0, 1) := by decide +kernel
theorem d_Reckoner_join_34 : decode prog_6_method_11_code 34 = .ok (.invokevirtual 64, 3) := by decide +kernel
theorem d_Reckoner_join_37 : decode prog_6_method_11_code 37 = .ok (.lstore_n 2, 1) := by decide +kernel
theorem d_Reckoner_join_38 : decode prog_6_method_11_code 38 = .ok (.aload_n 0, 1) := by decide +kernel
theorem d_Reckoner_join_39 : decode prog_6_method_11_code 39 = .ok (.invokevirtual 68, 3) := by decide +kernel
theorem d_Reckoner_join_42 : decode prog_6_method_11_code 42 = .ok (.lstore 4, 2) := by decide +kernel
theorem d_Reckoner_join_44 : decode prog_6_method_11_code 44 = .ok (.aload_n 0, 1) := by decide +kernel
theorem d_Reckoner_join_45 : decode prog_6_method_11_code 45 = .ok (.dup, 1) := by decide +kernel
theorem d_Reckoner_join_46 : decode prog_6_method_11_code 46 = .ok (.getfield 18, 3) := by decide +kernel
theorem d_Reckoner_join_49 : decode prog_6_method_11_code 49 = .ok (.iconst 1, 1) := by decide +kernel
theorem d_Reckoner_join_50 : decode prog_6_method_11_code 50 = .ok (.isub, 1) := by decide +kernel
theorem d_Reckoner_join_51 : decode prog_6_method_11_code 51 = .ok (.putfield 18, 3) := by decide +kernel
theorem d_Reckoner_join_54 : decode prog_6_method_11_code 54 = .ok (.iload_n 1, 1) := by decide +kernel
theorem d_Reckoner_join_55 : decode prog_6_method_11_code 55 = .ok (.bipush 42, 2) := by decide +kernel
theorem d_Reckoner_join_57 : decode prog_6_method_11_code 57 = .ok (.if_icmp .ne 25, 3) := by decide +kernel
theorem d_Reckoner_join_60 : decode prog_6_method_11_code 60 = .ok (.aload_n 0, 1) := by decide +kernel
theorem d_Reckoner_join_61 : decode prog_6_method_11_code 61 = .ok (.aload_n 0, 1) := by decide +kernel
theorem d_Reckoner_join_62 : decode prog_6_method_11_code 62 = .ok (.lload_n 2, 1) := by decide +kernel
theorem d_Reckoner_join_63 : decode prog_6_method_11_code 63 = .ok (.lload 6, 2) := by decide +kernel
theorem d_Reckoner_join_65 : decode prog_6_method_11_code 65 = .ok (.invokevirtual 71, 3) := by decide +kernel
theorem d_Reckoner_join_68 : decode prog_6_method_11_code 68 = .ok (.aload_n 0, 1) := by decide +kernel
theorem d_Reckoner_join_69 : decode prog_6_method_11_code 69 = .ok (.lload 4, 2) := by decide +kernel
theorem d_Reckoner_join_71 : decode prog_6_method_11_code 71 = .ok (.lload 8, 2) := by decide +kernel
theorem d_Reckoner_join_73 : decode prog_6_method_11_code 73 = .ok (.invokevirtual 71, 3) := by decide +kernel
theorem d_Reckoner_join_76 : decode prog_6_method_11_code 76 = .ok (.invokevirtual 75, 3) := by decide +kernel
theorem d_Reckoner_join_79 : decode prog_6_method_11_code 79 = .ok (.goto 123, 3) := by decide +kernel
theorem d_Reckoner_join_82 : decode prog_6_method_11_code 82 = .ok (.iload_n 1, 1) := by decide +kernel
theorem d_Reckoner_join_83 : decode prog_6_method_11_code 83 = .ok (.bipush 43, 2) := by decide +kernel
theorem d_Reckoner_join_85 : decode prog_6_method_11_code 85 = .ok (.if_icmp .ne 37, 3) := by decide +kernel
theorem d_Reckoner_join_88 : decode prog_6_method_11_code 88 = .ok (.aload_n 0, 1) := by decide +kernel
theorem d_Reckoner_join_89 : decode prog_6_method_11_code 89 = .ok (.aload_n 0, 1) := by decide +kernel
theorem d_Reckoner_join_90 : decode prog_6_method_11_code 90 = .ok (.aload_n 0, 1) := by decide +kernel
theorem d_Reckoner_join_91 : decode prog_6_method_11_code 91 = .ok (.lload_n 2, 1) := by decide +kernel
theorem d_Reckoner_join_92 : decode prog_6_method_11_code 92 = .ok (.lload 8, 2) := by decide +kernel
theorem d_Reckoner_join_94 : decode prog_6_method_11_code 94 = .ok (.invokevirtual 71, 3) := by decide +kernel
theorem d_Reckoner_join_97 : decode prog_6_method_11_code 97 = .ok (.aload_n 0, 1) := by decide +kernel
theorem d_Reckoner_join_98 : decode prog_6_method_11_code 98 = .ok (.lload 6, 2) := by decide +kernel
theorem d_Reckoner_join_100 : decode prog_6_method_11_code 100 = .ok (.lload 4, 2) := by decide +kernel
theorem d_Reckoner_join_102 : decode prog_6_method_11_code 102 = .ok (.invokevirtual 71, 3) := by decide +kernel
theorem d_Reckoner_join_105 : decode prog_6_method_11_code 105 = .ok (.invokevirtual 78, 3) := by decide +kernel
theorem d_Reckoner_join_108 : decode prog_6_method_11_code 108 = .ok (.aload_n 0, 1) := by decide +kernel
theorem d_Reckoner_join_109 : decode prog_6_method_11_code 109 = .ok (.lload 4, 2) := by decide +kernel
theorem d_Reckoner_join_111 : decode prog_6_method_11_code 111 = .ok (.lload 8, 2) := by decide +kernel
theorem d_Reckoner_join_113 : decode prog_6_method_11_code 113 = .ok (.invokevirtual 71, 3) := by decide +kernel
theorem d_Reckoner_join_116 : decode prog_6_method_11_code 116 = .ok (.invokevirtual 75, 3) := by decide +kernel
theorem d_Reckoner_join_119 : decode prog_6_method_11_code 119 = .ok (.goto 83, 3) := by decide +kernel
theorem d_Reckoner_join_122 : decode prog_6_method_11_code 122 = .ok (.iload_n 1, 1) := by decide +kernel
theorem d_Reckoner_join_123 : decode prog_6_method_11_code 123 = .ok (.bipush 45, 2) := by decide +kernel
theorem d_Reckoner_join_125 : decode prog_6_method_11_code 125 = .ok (.if_icmp .eq 9, 3) := by decide +kernel
theorem d_Reckoner_join_128 : decode prog_6_method_11_code 128 = .ok (.iload_n 1, 1) := by decide +kernel
theorem d_Reckoner_join_129 : decode prog_6_method_11_code 129 = .ok (.bipush 6, 2) := by decide +kernel
theorem d_Reckoner_join_131 : decode prog_6_method_11_code 131 = .ok (.if_icmp .ne 37, 3) := by decide +kernel
theorem d_Reckoner_join_134 : decode prog_6_method_11_code 134 = .ok (.aload_n 0, 1) := by decide +kernel
theorem d_Reckoner_join_135 : decode prog_6_method_11_code 135 = .ok (.aload_n 0, 1) := by decide +kernel
theorem d_Reckoner_join_136 : decode prog_6_method_11_code 136 = .ok (.aload_n 0, 1) := by decide +kernel
theorem d_Reckoner_join_137 : decode prog_6_method_11_code 137 = .ok (.lload_n 2, 1) := by decide +kernel
theorem d_Reckoner_join_138 : decode prog_6_method_11_code 138 = .ok (.lload 8, 2) := by decide +kernel
theorem d_Reckoner_join_140 : decode prog_6_method_11_code 140 = .ok (.invokevirtual 71, 3) := by decide +kernel
theorem d_Reckoner_join_143 : decode prog_6_method_11_code 143 = .ok (.aload_n 0, 1) := by decide +kernel
theorem d_Reckoner_join_144 : decode prog_6_method_11_code 144 = .ok (.lload 6, 2) := by decide +kernel
theorem d_Reckoner_join_146 : decode prog_6_method_11_code 146 = .ok (.lload 4, 2) := by decide +kernel
theorem d_Reckoner_join_148 : decode prog_6_method_11_code 148 = .ok (.invokevirtual 71, 3) := by decide +kernel
theorem d_Reckoner_join_151 : decode prog_6_method_11_code 151 = .ok (.invokevirtual 81, 3) := by decide +kernel
theorem d_Reckoner_join_154 : decode prog_6_method_11_code 154 = .ok (.aload_n 0, 1) := by decide +kernel
theorem d_Reckoner_join_155 : decode prog_6_method_11_code 155 = .ok (.lload 4, 2) := by decide +kernel
theorem d_Reckoner_join_157 : decode prog_6_method_11_code 157 = .ok (.lload 8, 2) := by decide +kernel
theorem d_Reckoner_join_159 : decode prog_6_method_11_code 159 = .ok (.invokevirtual 71, 3) := by decide +kernel
theorem d_Reckoner_join_162 : decode prog_6_method_11_code 162 = .ok (.invokevirtual 75, 3) := by decide +kernel
theorem d_Reckoner_join_165 : decode prog_6_method_11_code 165 = .ok (.goto 37, 3) := by decide +kernel
theorem d_Reckoner_join_168 : decode prog_6_method_11_code 168 = .ok (.lload 6, 2) := by decide +kernel
theorem d_Reckoner_join_170 : decode prog_6_method_11_code 170 = .ok (.lconst 0, 1) := by decide +kernel
theorem d_Reckoner_join_171 : decode prog_6_method_11_code 171 = .ok (.lcmp, 1) := by decide +kernel
theorem d_Reckoner_join_172 : decode prog_6_method_11_code 172 = .ok (.ifCond .ne 11, 3) := by decide +kernel
theorem d_Reckoner_join_175 : decode prog_6_method_11_code 175 = .ok (.aload_n 0, 1) := by decide +kernel
theorem d_Reckoner_join_176 : decode prog_6_method_11_code 176 = .ok (.iconst 3, 1) := by decide +kernel
theorem d_Reckoner_join_177 : decode prog_6_method_11_code 177 = .ok (.putfield 22, 3) := by decide +kernel
theorem d_Reckoner_join_180 : decode prog_6_method_11_code 180 = .ok (.goto 22, 3) := by decide +kernel
theorem d_Reckoner_join_183 : decode prog_6_method_11_code 183 = .ok (.aload_n 0, 1) := by decide +kernel
theorem d_Reckoner_join_184 : decode prog_6_method_11_code 184 = .ok (.aload_n 0, 1) := by decide +kernel
theorem d_Reckoner_join_185 : decode prog_6_method_11_code 185 = .ok (.lload_n 2, 1) := by decide +kernel
theorem d_Reckoner_join_186 : decode prog_6_method_11_code 186 = .ok (.lload 8, 2) := by decide +kernel
theorem d_Reckoner_join_188 : decode prog_6_method_11_code 188 = .ok (.invokevirtual 71, 3) := by decide +kernel
theorem d_Reckoner_join_191 : decode prog_6_method_11_code 191 = .ok (.aload_n 0, 1) := by decide +kernel
theorem d_Reckoner_join_192 : decode prog_6_method_11_code 192 = .ok (.lload 4, 2) := by decide +kernel
theorem d_Reckoner_join_194 : decode prog_6_method_11_code 194 = .ok (.lload 6, 2) := by decide +kernel
theorem d_Reckoner_join_196 : decode prog_6_method_11_code 196 = .ok (.invokevirtual 71, 3) := by decide +kernel
theorem d_Reckoner_join_199 : decode prog_6_method_11_code 199 = .ok (.invokevirtual 75, 3) := by decide +kernel
theorem d_Reckoner_join_202 : decode prog_6_method_11_code 202 = .ok (.return_, 1) := by decide +kernel
abbrev y_Reckoner_reckonSide : MethodName := ⟨"PermitRules$Reckoner", "reckonSide", "(LPermitRules$Book;LPermitRules$Facts;II)V"⟩
abbrev cw_Reckoner_reckonSide : Cond := .code y_Reckoner_reckonSide prog_6_method_3_code 7 none
theorem d_Reckoner_reckonSide_0 : decode prog_6_method_3_code 0 = .ok (.aload_n 0, 1) := by decide +kernel
theorem d_Reckoner_reckonSide_1 : decode prog_6_method_3_code 1 = .ok (.iconst 0, 1) := by decide +kernel
theorem d_Reckoner_reckonSide_2 : decode prog_6_method_3_code 2 = .ok (.putfield 18, 3) := by decide +kernel
theorem d_Reckoner_reckonSide_5 : decode prog_6_method_3_code 5 = .ok (.iload_n 3, 1) := by decide +kernel
theorem d_Reckoner_reckonSide_6 : decode prog_6_method_3_code 6 = .ok (.istore 5, 2) := by decide +kernel
theorem d_Reckoner_reckonSide_8 : decode prog_6_method_3_code 8 = .ok (.iload 5, 2) := by decide +kernel
theorem d_Reckoner_reckonSide_10 : decode prog_6_method_3_code 10 = .ok (.iload 4, 2) := by decide +kernel
theorem d_Reckoner_reckonSide_12 : decode prog_6_method_3_code 12 = .ok (.if_icmp .ge 70, 3) := by decide +kernel
theorem d_Reckoner_reckonSide_15 : decode prog_6_method_3_code 15 = .ok (.aload_n 0, 1) := by decide +kernel
theorem d_Reckoner_reckonSide_16 : decode prog_6_method_3_code 16 = .ok (.getfield 22, 3) := by decide +kernel
theorem d_Reckoner_reckonSide_19 : decode prog_6_method_3_code 19 = .ok (.ifCond .ne 63, 3) := by decide +kernel
theorem d_Reckoner_reckonSide_22 : decode prog_6_method_3_code 22 = .ok (.aload_n 1, 1) := by decide +kernel
theorem d_Reckoner_reckonSide_23 : decode prog_6_method_3_code 23 = .ok (.iload 5, 2) := by decide +kernel
theorem d_Reckoner_reckonSide_25 : decode prog_6_method_3_code 25 = .ok (.invokevirtual 29, 3) := by decide +kernel
theorem d_Reckoner_reckonSide_28 : decode prog_6_method_3_code 28 = .ok (.istore 6, 2) := by decide +kernel
theorem d_Reckoner_reckonSide_30 : decode prog_6_method_3_code 30 = .ok (.iload 6, 2) := by decide +kernel
theorem d_Reckoner_reckonSide_32 : decode prog_6_method_3_code 32 = .ok (.iconst 2, 1) := by decide +kernel
theorem d_Reckoner_reckonSide_33 : decode prog_6_method_3_code 33 = .ok (.if_icmp .ne 17, 3) := by decide +kernel
theorem d_Reckoner_reckonSide_36 : decode prog_6_method_3_code 36 = .ok (.aload_n 0, 1) := by decide +kernel
theorem d_Reckoner_reckonSide_37 : decode prog_6_method_3_code 37 = .ok (.aload_n 1, 1) := by decide +kernel
theorem d_Reckoner_reckonSide_38 : decode prog_6_method_3_code 38 = .ok (.iload 5, 2) := by decide +kernel
theorem d_Reckoner_reckonSide_40 : decode prog_6_method_3_code 40 = .ok (.invokevirtual 35, 3) := by decide +kernel
theorem d_Reckoner_reckonSide_43 : decode prog_6_method_3_code 43 = .ok (.lconst 1, 1) := by decide +kernel
theorem d_Reckoner_reckonSide_44 : decode prog_6_method_3_code 44 = .ok (.invokevirtual 39, 3) := by decide +kernel
theorem d_Reckoner_reckonSide_47 : decode prog_6_method_3_code 47 = .ok (.goto 29, 3) := by decide +kernel
theorem d_Reckoner_reckonSide_50 : decode prog_6_method_3_code 50 = .ok (.iload 6, 2) := by decide +kernel
theorem d_Reckoner_reckonSide_52 : decode prog_6_method_3_code 52 = .ok (.iconst 3, 1) := by decide +kernel
theorem d_Reckoner_reckonSide_53 : decode prog_6_method_3_code 53 = .ok (.if_icmp .ne 17, 3) := by decide +kernel
theorem d_Reckoner_reckonSide_56 : decode prog_6_method_3_code 56 = .ok (.aload_n 0, 1) := by decide +kernel
theorem d_Reckoner_reckonSide_57 : decode prog_6_method_3_code 57 = .ok (.aload_n 2, 1) := by decide +kernel
theorem d_Reckoner_reckonSide_58 : decode prog_6_method_3_code 58 = .ok (.aload_n 1, 1) := by decide +kernel
theorem d_Reckoner_reckonSide_59 : decode prog_6_method_3_code 59 = .ok (.iload 5, 2) := by decide +kernel
theorem d_Reckoner_reckonSide_61 : decode prog_6_method_3_code 61 = .ok (.invokevirtual 35, 3) := by decide +kernel
theorem d_Reckoner_reckonSide_64 : decode prog_6_method_3_code 64 = .ok (.invokevirtual 43, 3) := by decide +kernel
theorem d_Reckoner_reckonSide_67 : decode prog_6_method_3_code 67 = .ok (.goto 9, 3) := by decide +kernel
theorem d_Reckoner_reckonSide_70 : decode prog_6_method_3_code 70 = .ok (.aload_n 0, 1) := by decide +kernel
theorem d_Reckoner_reckonSide_71 : decode prog_6_method_3_code 71 = .ok (.iload 6, 2) := by decide +kernel
theorem d_Reckoner_reckonSide_73 : decode prog_6_method_3_code 73 = .ok (.invokevirtual 47, 3) := by decide +kernel
theorem d_Reckoner_reckonSide_76 : decode prog_6_method_3_code 76 = .ok (.iinc 5 1, 3) := by decide +kernel
theorem d_Reckoner_reckonSide_79 : decode prog_6_method_3_code 79 = .ok (.goto (-71), 3) := by decide +kernel
theorem d_Reckoner_reckonSide_82 : decode prog_6_method_3_code 82 = .ok (.return_, 1) := by decide +kernel
abbrev y_Judge_compare : MethodName := ⟨"PermitRules$Judge", "compare", "(IJJ)Z"⟩
abbrev cw_Judge_compare : Cond := .code y_Judge_compare prog_4_method_4_code 5 (some .boolean)
theorem d_Judge_compare_0 : decode prog_4_method_4_code 0 = .ok (.iload_n 0, 1) := by decide +kernel
theorem d_Judge_compare_1 : decode prog_4_method_4_code 1 = .ok (.lookupswitch 111 #[(4, 63), (5, 87), (60, 51), (61, 75), (62, 99)], 51) := by decide +kernel
theorem d_Judge_compare_52 : decode prog_4_method_4_code 52 = .ok (.lload_n 1, 1) := by decide +kernel
theorem d_Judge_compare_53 : decode prog_4_method_4_code 53 = .ok (.lload_n 3, 1) := by decide +kernel
theorem d_Judge_compare_54 : decode prog_4_method_4_code 54 = .ok (.lcmp, 1) := by decide +kernel
theorem d_Judge_compare_55 : decode prog_4_method_4_code 55 = .ok (.ifCond .ge 7, 3) := by decide +kernel
theorem d_Judge_compare_58 : decode prog_4_method_4_code 58 = .ok (.iconst 1, 1) := by decide +kernel
theorem d_Judge_compare_59 : decode prog_4_method_4_code 59 = .ok (.goto 4, 3) := by decide +kernel
theorem d_Judge_compare_62 : decode prog_4_method_4_code 62 = .ok (.iconst 0, 1) := by decide +kernel
theorem d_Judge_compare_63 : decode prog_4_method_4_code 63 = .ok (.ireturn, 1) := by decide +kernel
theorem d_Judge_compare_64 : decode prog_4_method_4_code 64 = .ok (.lload_n 1, 1) := by decide +kernel
theorem d_Judge_compare_65 : decode prog_4_method_4_code 65 = .ok (.lload_n 3, 1) := by decide +kernel
theorem d_Judge_compare_66 : decode prog_4_method_4_code 66 = .ok (.lcmp, 1) := by decide +kernel
theorem d_Judge_compare_67 : decode prog_4_method_4_code 67 = .ok (.ifCond .gt 7, 3) := by decide +kernel
theorem d_Judge_compare_70 : decode prog_4_method_4_code 70 = .ok (.iconst 1, 1) := by decide +kernel
theorem d_Judge_compare_71 : decode prog_4_method_4_code 71 = .ok (.goto 4, 3) := by decide +kernel
theorem d_Judge_compare_74 : decode prog_4_method_4_code 74 = .ok (.iconst 0, 1) := by decide +kernel
theorem d_Judge_compare_75 : decode prog_4_method_4_code 75 = .ok (.ireturn, 1) := by decide +kernel
theorem d_Judge_compare_76 : decode prog_4_method_4_code 76 = .ok (.lload_n 1, 1) := by decide +kernel
theorem d_Judge_compare_77 : decode prog_4_method_4_code 77 = .ok (.lload_n 3, 1) := by decide +kernel
theorem d_Judge_compare_78 : decode prog_4_method_4_code 78 = .ok (.lcmp, 1) := by decide +kernel
theorem d_Judge_compare_79 : decode prog_4_method_4_code 79 = .ok (.ifCond .ne 7, 3) := by decide +kernel
theorem d_Judge_compare_82 : decode prog_4_method_4_code 82 = .ok (.iconst 1, 1) := by decide +kernel
theorem d_Judge_compare_83 : decode prog_4_method_4_code 83 = .ok (.goto 4, 3) := by decide +kernel
theorem d_Judge_compare_86 : decode prog_4_method_4_code 86 = .ok (.iconst 0, 1) := by decide +kernel
theorem d_Judge_compare_87 : decode prog_4_method_4_code 87 = .ok (.ireturn, 1) := by decide +kernel
theorem d_Judge_compare_88 : decode prog_4_method_4_code 88 = .ok (.lload_n 1, 1) := by decide +kernel
theorem d_Judge_compare_89 : decode prog_4_method_4_code 89 = .ok (.lload_n 3, 1) := by decide +kernel
theorem d_Judge_compare_90 : decode prog_4_method_4_code 90 = .ok (.lcmp, 1) := by decide +kernel
theorem d_Judge_compare_91 : decode prog_4_method_4_code 91 = .ok (.ifCond .lt 7, 3) := by decide +kernel
theorem d_Judge_compare_94 : decode prog_4_method_4_code 94 = .ok (.iconst 1, 1) := by decide +kernel
theorem d_Judge_compare_95 : decode prog_4_method_4_code 95 = .ok (.goto 4, 3) := by decide +kernel
theorem d_Judge_compare_98 : decode prog_4_method_4_code 98 = .ok (.iconst 0, 1) := by decide +kernel
theorem d_Judge_compare_99 : decode prog_4_method_4_code 99 = .ok (.ireturn, 1) := by decide +kernel
theorem d_Judge_compare_100 : decode prog_4_method_4_code 100 = .ok (.lload_n 1, 1) := by decide +kernel
theorem d_Judge_compare_101 : decode prog_4_method_4_code 101 = .ok (.lload_n 3, 1) := by decide +kernel
theorem d_Judge_compare_102 : decode prog_4_method_4_code 102 = .ok (.lcmp, 1) := by decide +kernel
theorem d_Judge_compare_103 : decode prog_4_method_4_code 103 = .ok (.ifCond .le 7, 3) := by decide +kernel
theorem d_Judge_compare_106 : decode prog_4_method_4_code 106 = .ok (.iconst 1, 1) := by decide +kernel
theorem d_Judge_compare_107 : decode prog_4_method_4_code 107 = .ok (.goto 4, 3) := by decide +kernel
theorem d_Judge_compare_110 : decode prog_4_method_4_code 110 = .ok (.iconst 0, 1) := by decide +kernel
theorem d_Judge_compare_111 : decode prog_4_method_4_code 111 = .ok (.ireturn, 1) := by decide +kernel
theorem d_Judge_compare_112 : decode prog_4_method_4_code 112 = .ok (.iconst 0, 1) := by decide +kernel
theorem d_Judge_compare_113 : decode prog_4_method_4_code 113 = .ok (.ireturn, 1) := by decide +kernel
abbrev y_Judge_holds : MethodName := ⟨"PermitRules$Judge", "holds", "(LPermitRules$Book;LPermitRules$Facts;IZ)Z"⟩
abbrev cw_Judge_holds : Cond := .code y_Judge_holds prog_4_method_3_code 14 (some .boolean)
theorem d_Judge_holds_0 : decode prog_4_method_3_code 0 = .ok (.aload_n 1, 1) := by decide +kernel
theorem d_Judge_holds_1 : decode prog_4_method_3_code 1 = .ok (.iload_n 3, 1) := by decide +kernel
theorem d_Judge_holds_2 : decode prog_4_method_3_code 2 = .ok (.invokevirtual 58, 3) := by decide +kernel
theorem d_Judge_holds_5 : decode prog_4_method_3_code 5 = .ok (.istore 5, 2) := by decide +kernel
theorem d_Judge_holds_7 : decode prog_4_method_3_code 7 = .ok (.aload_n 0, 1) := by decide +kernel
theorem d_Judge_holds_8 : decode prog_4_method_3_code 8 = .ok (.getfield 12, 3) := by decide +kernel
theorem d_Judge_holds_11 : decode prog_4_method_3_code 11 = .ok (.aload_n 1, 1) := by decide +kernel
theorem d_Judge_holds_12 : decode prog_4_method_3_code 12 = .ok (.aload_n 2, 1) := by decide +kernel
theorem d_Judge_holds_13 : decode prog_4_method_3_code 13 = .ok (.aload_n 1, 1) := by decide +kernel
theorem d_Judge_holds_14 : decode prog_4_method_3_code 14 = .ok (.iload_n 3, 1) := by decide +kernel
theorem d_Judge_holds_15 : decode prog_4_method_3_code 15 = .ok (.invokevirtual 61, 3) := by decide +kernel
theorem d_Judge_holds_18 : decode prog_4_method_3_code 18 = .ok (.iload 5, 2) := by decide +kernel
theorem d_Judge_holds_20 : decode prog_4_method_3_code 20 = .ok (.invokevirtual 64, 3) := by decide +kernel
theorem d_Judge_holds_23 : decode prog_4_method_3_code 23 = .ok (.aload_n 0, 1) := by decide +kernel
theorem d_Judge_holds_24 : decode prog_4_method_3_code 24 = .ok (.getfield 12, 3) := by decide +kernel
theorem d_Judge_holds_27 : decode prog_4_method_3_code 27 = .ok (.invokevirtual 68, 3) := by decide +kernel
theorem d_Judge_holds_30 : decode prog_4_method_3_code 30 = .ok (.lstore 6, 2) := by decide +kernel
theorem d_Judge_holds_32 : decode prog_4_method_3_code 32 = .ok (.aload_n 0, 1) := by decide +kernel
theorem d_Judge_holds_33 : decode prog_4_method_3_code 33 = .ok (.getfield 12, 3) := by decide +kernel
theorem d_Judge_holds_36 : decode prog_4_method_3_code 36 = .ok (.invokevirtual 72, 3) := by decide +kernel
theorem d_Judge_holds_39 : decode prog_4_method_3_code 39 = .ok (.lstore 8, 2) := by decide +kernel
theorem d_Judge_holds_41 : decode prog_4_method_3_code 41 = .ok (.aload_n 0, 1) := by decide +kernel
theorem d_Judge_holds_42 : decode prog_4_method_3_code 42 = .ok (.getfield 12, 3) := by decide +kernel
theorem d_Judge_holds_45 : decode prog_4_method_3_code 45 = .ok (.getfield 55, 3) := by decide +kernel
theorem d_Judge_holds_48 : decode prog_4_method_3_code 48 = .ok (.ifCond .ne 19, 3) := by decide +kernel
theorem d_Judge_holds_51 : decode prog_4_method_3_code 51 = .ok (.aload_n 0, 1) := by decide +kernel
theorem d_Judge_holds_52 : decode prog_4_method_3_code 52 = .ok (.getfield 12, 3) := by decide +kernel
theorem d_Judge_holds_55 : decode prog_4_method_3_code 55 = .ok (.aload_n 1, 1) := by decide +kernel
theorem d_Judge_holds_56 : decode prog_4_method_3_code 56 = .ok (.aload_n 2, 1) := by decide +kernel
theorem d_Judge_holds_57 : decode prog_4_method_3_code 57 = .ok (.iload 5, 2) := by decide +kernel
theorem d_Judge_holds_59 : decode prog_4_method_3_code 59 = .ok (.aload_n 1, 1) := by decide +kernel
theorem d_Judge_holds_60 : decode prog_4_method_3_code 60 = .ok (.iload_n 3, 1) := by decide +kernel
theorem d_Judge_holds_61 : decode prog_4_method_3_code 61 = .ok (.invokevirtual 75, 3) := by decide +kernel
theorem d_Judge_holds_64 : decode prog_4_method_3_code 64 = .ok (.invokevirtual 64, 3) := by decide +kernel
theorem d_Judge_holds_67 : decode prog_4_method_3_code 67 = .ok (.aload_n 0, 1) := by decide +kernel
theorem d_Judge_holds_68 : decode prog_4_method_3_code 68 = .ok (.getfield 12, 3) := by decide +kernel
theorem d_Judge_holds_71 : decode prog_4_method_3_code 71 = .ok (.invokevirtual 68, 3) := by decide +kernel
theorem d_Judge_holds_74 : decode prog_4_method_3_code 74 = .ok (.lstore 10, 2) := by decide +kernel
theorem d_Judge_holds_76 : decode prog_4_method_3_code 76 = .ok (.aload_n 0, 1) := by decide +kernel
theorem d_Judge_holds_77 : decode prog_4_method_3_code 77 = .ok (.getfield 12, 3) := by decide +kernel
theorem d_Judge_holds_80 : decode prog_4_method_3_code 80 = .ok (.invokevirtual 72, 3) := by decide +kernel
theorem d_Judge_holds_83 : decode prog_4_method_3_code 83 = .ok (.lstore 12, 2) := by decide +kernel
theorem d_Judge_holds_85 : decode prog_4_method_3_code 85 = .ok (.iload 4, 2) := by decide +kernel
theorem d_Judge_holds_87 : decode prog_4_method_3_code 87 = .ok (.ifCond .eq 27, 3) := by decide +kernel
theorem d_Judge_holds_90 : decode prog_4_method_3_code 90 = .ok (.aload_n 0, 1) := by decide +kernel
theorem d_Judge_holds_91 : decode prog_4_method_3_code 91 = .ok (.lload 6, 2) := by decide +kernel
theorem d_Judge_holds_93 : decode prog_4_method_3_code 93 = .ok (.putfield 22, 3) := by decide +kernel
theorem d_Judge_holds_96 : decode prog_4_method_3_code 96 = .ok (.aload_n 0, 1) := by decide +kernel
theorem d_Judge_holds_97 : decode prog_4_method_3_code 97 = .ok (.lload 8, 2) := by decide +kernel
theorem d_Judge_holds_99 : decode prog_4_method_3_code 99 = .ok (.putfield 26, 3) := by decide +kernel
theorem d_Judge_holds_102 : decode prog_4_method_3_code 102 = .ok (.aload_n 0, 1) := by decide +kernel
theorem d_Judge_holds_103 : decode prog_4_method_3_code 103 = .ok (.lload 10, 2) := by decide +kernel
theorem d_Judge_holds_105 : decode prog_4_method_3_code 105 = .ok (.putfield 29, 3) := by decide +kernel
theorem d_Judge_holds_108 : decode prog_4_method_3_code 108 = .ok (.aload_n 0, 1) := by decide +kernel
theorem d_Judge_holds_109 : decode prog_4_method_3_code 109 = .ok (.lload 12, 2) := by decide +kernel
theorem d_Judge_holds_111 : decode prog_4_method_3_code 111 = .ok (.putfield 32, 3) := by decide +kernel
theorem d_Judge_holds_114 : decode prog_4_method_3_code 114 = .ok (.aload_n 0, 1) := by decide +kernel
theorem d_Judge_holds_115 : decode prog_4_method_3_code 115 = .ok (.getfield 12, 3) := by decide +kernel
theorem d_Judge_holds_118 : decode prog_4_method_3_code 118 = .ok (.getfield 55, 3) := by decide +kernel
theorem d_Judge_holds_121 : decode prog_4_method_3_code 121 = .ok (.ifCond .eq 5, 3) := by decide +kernel
theorem d_Judge_holds_124 : decode prog_4_method_3_code 124 = .ok (.iconst 0, 1) := by decide +kernel
theorem d_Judge_holds_125 : decode prog_4_method_3_code 125 = .ok (.ireturn, 1) := by decide +kernel
theorem d_Judge_holds_126 : decode prog_4_method_3_code 126 = .ok (.aload_n 1, 1) := by decide +kernel
theorem d_Judge_holds_127 : decode prog_4_method_3_code 127 = .ok (.iload_n 3, 1) := by decide +kernel
theorem d_Judge_holds_128 : decode prog_4_method_3_code 128 = .ok (.invokevirtual 78, 3) := by decide +kernel
theorem d_Judge_holds_131 : decode prog_4_method_3_code 131 = .ok (.aload_n 0, 1) := by decide +kernel
theorem d_Judge_holds_132 : decode prog_4_method_3_code 132 = .ok (.getfield 12, 3) := by decide +kernel
theorem d_Judge_holds_135 : decode prog_4_method_3_code 135 = .ok (.lload 6, 2) := by decide +kernel
theorem d_Judge_holds_137 : decode prog_4_method_3_code 137 = .ok (.lload 12, 2) := by decide +kernel
theorem d_Judge_holds_139 : decode prog_4_method_3_code 139 = .ok (.invokevirtual 81, 3) := by decide +kernel
theorem d_Judge_holds_142 : decode prog_4_method_3_code 142 = .ok (.aload_n 0, 1) := by decide +kernel
theorem d_Judge_holds_143 : decode prog_4_method_3_code 143 = .ok (.getfield 12, 3) := by decide +kernel
theorem d_Judge_holds_146 : decode prog_4_method_3_code 146 = .ok (.lload 10, 2) := by decide +kernel
theorem d_Judge_holds_148 : decode prog_4_method_3_code 148 = .ok (.lload 8, 2) := by decide +kernel
theorem d_Judge_holds_150 : decode prog_4_method_3_code 150 = .ok (.invokevirtual 81, 3) := by decide +kernel
theorem d_Judge_holds_153 : decode prog_4_method_3_code 153 = .ok (.invokestatic 85, 3) := by decide +kernel
theorem d_Judge_holds_156 : decode prog_4_method_3_code 156 = .ok (.ireturn, 1) := by decide +kernel
abbrev y_Judge_ask : MethodName := ⟨"PermitRules$Judge", "ask", "(LPermitRules$Book;LPermitRules$Facts;II)V"⟩
abbrev cw_Judge_ask : Cond := .code y_Judge_ask prog_4_method_2_code 9 none
theorem d_Judge_ask_0 : decode prog_4_method_2_code 0 = .ok (.aload_n 0, 1) := by decide +kernel
theorem d_Judge_ask_1 : decode prog_4_method_2_code 1 = .ok (.getfield 12, 3) := by decide +kernel
theorem d_Judge_ask_4 : decode prog_4_method_2_code 4 = .ok (.invokevirtual 35, 3) := by decide +kernel
theorem d_Judge_ask_7 : decode prog_4_method_2_code 7 = .ok (.aload_n 0, 1) := by decide +kernel
theorem d_Judge_ask_8 : decode prog_4_method_2_code 8 = .ok (.lconst 0, 1) := by decide +kernel
theorem d_Judge_ask_9 : decode prog_4_method_2_code 9 = .ok (.putfield 22, 3) := by decide +kernel
theorem d_Judge_ask_12 : decode prog_4_method_2_code 12 = .ok (.aload_n 0, 1) := by decide +kernel
theorem d_Judge_ask_13 : decode prog_4_method_2_code 13 = .ok (.lconst 0, 1) := by decide +kernel
theorem d_Judge_ask_14 : decode prog_4_method_2_code 14 = .ok (.putfield 26, 3) := by decide +kernel
theorem d_Judge_ask_17 : decode prog_4_method_2_code 17 = .ok (.aload_n 0, 1) := by decide +kernel
theorem d_Judge_ask_18 : decode prog_4_method_2_code 18 = .ok (.lconst 0, 1) := by decide +kernel
theorem d_Judge_ask_19 : decode prog_4_method_2_code 19 = .ok (.putfield 29, 3) := by decide +kernel
theorem d_Judge_ask_22 : decode prog_4_method_2_code 22 = .ok (.aload_n 0, 1) := by decide +kernel
theorem d_Judge_ask_23 : decode prog_4_method_2_code 23 = .ok (.lconst 0, 1) := by decide +kernel
theorem d_Judge_ask_24 : decode prog_4_method_2_code 24 = .ok (.putfield 32, 3) := by decide +kernel
theorem d_Judge_ask_27 : decode prog_4_method_2_code 27 = .ok (.iload 4, 2) := by decide +kernel
theorem d_Judge_ask_29 : decode prog_4_method_2_code 29 = .ok (.i2l, 1) := by decide +kernel
theorem d_Judge_ask_30 : decode prog_4_method_2_code 30 = .ok (.aload_n 1, 1) := by decide +kernel
theorem d_Judge_ask_31 : decode prog_4_method_2_code 31 = .ok (.iload_n 3, 1) := by decide +kernel
theorem d_Judge_ask_32 : decode prog_4_method_2_code 32 = .ok (.invokevirtual 38, 3) := by decide +kernel
theorem d_Judge_ask_35 : decode prog_4_method_2_code 35 = .ok (.lcmp, 1) := by decide +kernel
theorem d_Judge_ask_36 : decode prog_4_method_2_code 36 = .ok (.ifCond .ge 9, 3) := by decide +kernel
theorem d_Judge_ask_39 : decode prog_4_method_2_code 39 = .ok (.aload_n 0, 1) := by decide +kernel
theorem d_Judge_ask_40 : decode prog_4_method_2_code 40 = .ok (.iconst 4, 1) := by decide +kernel
theorem d_Judge_ask_41 : decode prog_4_method_2_code 41 = .ok (.putfield 18, 3) := by decide +kernel
theorem d_Judge_ask_44 : decode prog_4_method_2_code 44 = .ok (.return_, 1) := by decide +kernel
theorem d_Judge_ask_45 : decode prog_4_method_2_code 45 = .ok (.aload_n 1, 1) := by decide +kernel
theorem d_Judge_ask_46 : decode prog_4_method_2_code 46 = .ok (.iload_n 3, 1) := by decide +kernel
theorem d_Judge_ask_47 : decode prog_4_method_2_code 47 = .ok (.invokevirtual 44, 3) := by decide +kernel
theorem d_Judge_ask_50 : decode prog_4_method_2_code 50 = .ok (.istore 5, 2) := by decide +kernel
theorem d_Judge_ask_52 : decode prog_4_method_2_code 52 = .ok (.aload_n 1, 1) := by decide +kernel
theorem d_Judge_ask_53 : decode prog_4_method_2_code 53 = .ok (.iload_n 3, 1) := by decide +kernel
theorem d_Judge_ask_54 : decode prog_4_method_2_code 54 = .ok (.invokevirtual 48, 3) := by decide +kernel
theorem d_Judge_ask_57 : decode prog_4_method_2_code 57 = .ok (.istore 6, 2) := by decide +kernel
theorem d_Judge_ask_59 : decode prog_4_method_2_code 59 = .ok (.aload_n 0, 1) := by decide +kernel
theorem d_Judge_ask_60 : decode prog_4_method_2_code 60 = .ok (.aload_n 0, 1) := by decide +kernel
theorem d_Judge_ask_61 : decode prog_4_method_2_code 61 = .ok (.aload_n 1, 1) := by decide +kernel
theorem d_Judge_ask_62 : decode prog_4_method_2_code 62 = .ok (.aload_n 2, 1) := by decide +kernel
theorem d_Judge_ask_63 : decode prog_4_method_2_code 63 = .ok (.iload 5, 2) := by decide +kernel
theorem d_Judge_ask_65 : decode prog_4_method_2_code 65 = .ok (.iconst 1, 1) := by decide +kernel
theorem d_Judge_ask_66 : decode prog_4_method_2_code 66 = .ok (.invokevirtual 51, 3) := by decide +kernel
theorem d_Judge_ask_69 : decode prog_4_method_2_code 69 = .ok (.ifCond .eq 7, 3) := by decide +kernel
theorem d_Judge_ask_72 : decode prog_4_method_2_code 72 = .ok (.iconst 0, 1) := by decide +kernel
theorem d_Judge_ask_73 : decode prog_4_method_2_code 73 = .ok (.goto 4, 3) := by decide +kernel
theorem d_Judge_ask_76 : decode prog_4_method_2_code 76 = .ok (.iconst 1, 1) := by decide +kernel
theorem d_Judge_ask_77 : decode prog_4_method_2_code 77 = .ok (.putfield 18, 3) := by decide +kernel
theorem d_Judge_ask_80 : decode prog_4_method_2_code 80 = .ok (.aload_n 0, 1) := by decide +kernel
theorem d_Judge_ask_81 : decode prog_4_method_2_code 81 = .ok (.getfield 18, 3) := by decide +kernel
theorem d_Judge_ask_84 : decode prog_4_method_2_code 84 = .ok (.iconst 1, 1) := by decide +kernel
theorem d_Judge_ask_85 : decode prog_4_method_2_code 85 = .ok (.if_icmp .ne 7, 3) := by decide +kernel
theorem d_Judge_ask_88 : decode prog_4_method_2_code 88 = .ok (.iconst 1, 1) := by decide +kernel
theorem d_Judge_ask_89 : decode prog_4_method_2_code 89 = .ok (.goto 4, 3) := by decide +kernel
theorem d_Judge_ask_92 : decode prog_4_method_2_code 92 = .ok (.iconst 0, 1) := by decide +kernel
theorem d_Judge_ask_93 : decode prog_4_method_2_code 93 = .ok (.istore 7, 2) := by decide +kernel
theorem d_Judge_ask_95 : decode prog_4_method_2_code 95 = .ok (.iload 5, 2) := by decide +kernel
theorem d_Judge_ask_97 : decode prog_4_method_2_code 97 = .ok (.iconst 1, 1) := by decide +kernel
theorem d_Judge_ask_98 : decode prog_4_method_2_code 98 = .ok (.iadd, 1) := by decide +kernel
theorem d_Judge_ask_99 : decode prog_4_method_2_code 99 = .ok (.istore 8, 2) := by decide +kernel
theorem d_Judge_ask_101 : decode prog_4_method_2_code 101 = .ok (.iload 8, 2) := by decide +kernel
theorem d_Judge_ask_103 : decode prog_4_method_2_code 103 = .ok (.iload 6, 2) := by decide +kernel
theorem d_Judge_ask_105 : decode prog_4_method_2_code 105 = .ok (.if_icmp .ge 49, 3) := by decide +kernel
theorem d_Judge_ask_108 : decode prog_4_method_2_code 108 = .ok (.iload 7, 2) := by decide +kernel
theorem d_Judge_ask_110 : decode prog_4_method_2_code 110 = .ok (.ifCond .eq 44, 3) := by decide +kernel
theorem d_Judge_ask_113 : decode prog_4_method_2_code 113 = .ok (.aload_n 0, 1) := by decide +kernel
theorem d_Judge_ask_114 : decode prog_4_method_2_code 114 = .ok (.getfield 12, 3) := by decide +kernel
theorem d_Judge_ask_117 : decode prog_4_method_2_code 117 = .ok (.getfield 55, 3) := by decide +kernel
theorem d_Judge_ask_120 : decode prog_4_method_2_code 120 = .ok (.ifCond .ne 34, 3) := by decide +kernel
theorem d_Judge_ask_123 : decode prog_4_method_2_code 123 = .ok (.aload_n 0, 1) := by decide +kernel
theorem d_Judge_ask_124 : decode prog_4_method_2_code 124 = .ok (.aload_n 1, 1) := by decide +kernel
theorem d_Judge_ask_125 : decode prog_4_method_2_code 125 = .ok (.aload_n 2, 1) := by decide +kernel
theorem d_Judge_ask_126 : decode prog_4_method_2_code 126 = .ok (.iload 8, 2) := by decide +kernel
theorem d_Judge_ask_128 : decode prog_4_method_2_code 128 = .ok (.iconst 0, 1) := by decide +kernel
theorem d_Judge_ask_129 : decode prog_4_method_2_code 129 = .ok (.invokevirtual 51, 3) := by decide +kernel
theorem d_Judge_ask_132 : decode prog_4_method_2_code 132 = .ok (.istore 7, 2) := by decide +kernel
theorem d_Judge_ask_134 : decode prog_4_method_2_code 134 = .ok (.aload_n 0, 1) := by decide +kernel
theorem d_Judge_ask_135 : decode prog_4_method_2_code 135 = .ok (.iload 7, 2) := by decide +kernel
theorem d_Judge_ask_137 : decode prog_4_method_2_code 137 = .ok (.ifCond .eq 7, 3) := by decide +kernel
theorem d_Judge_ask_140 : decode prog_4_method_2_code 140 = .ok (.iconst 2, 1) := by decide +kernel
theorem d_Judge_ask_141 : decode prog_4_method_2_code 141 = .ok (.goto 4, 3) := by decide +kernel
theorem d_Judge_ask_144 : decode prog_4_method_2_code 144 = .ok (.iconst 1, 1) := by decide +kernel
theorem d_Judge_ask_145 : decode prog_4_method_2_code 145 = .ok (.putfield 18, 3) := by decide +kernel
theorem d_Judge_ask_148 : decode prog_4_method_2_code 148 = .ok (.iinc 8 1, 3) := by decide +kernel
theorem d_Judge_ask_151 : decode prog_4_method_2_code 151 = .ok (.goto (-50), 3) := by decide +kernel
theorem d_Judge_ask_154 : decode prog_4_method_2_code 154 = .ok (.aload_n 0, 1) := by decide +kernel
theorem d_Judge_ask_155 : decode prog_4_method_2_code 155 = .ok (.getfield 12, 3) := by decide +kernel
theorem d_Judge_ask_158 : decode prog_4_method_2_code 158 = .ok (.getfield 55, 3) := by decide +kernel
theorem d_Judge_ask_161 : decode prog_4_method_2_code 161 = .ok (.ifCond .eq 8, 3) := by decide +kernel
theorem d_Judge_ask_164 : decode prog_4_method_2_code 164 = .ok (.aload_n 0, 1) := by decide +kernel
theorem d_Judge_ask_165 : decode prog_4_method_2_code 165 = .ok (.iconst 3, 1) := by decide +kernel
theorem d_Judge_ask_166 : decode prog_4_method_2_code 166 = .ok (.putfield 18, 3) := by decide +kernel
theorem d_Judge_ask_169 : decode prog_4_method_2_code 169 = .ok (.return_, 1) := by decide +kernel
abbrev y_Words_init : MethodName := ⟨"PermitRules$Words", "<init>", "()V"⟩
abbrev cw_Words_init : Cond := .code y_Words_init prog_8_method_1_code 1 none
theorem d_Words_init_0 : decode prog_8_method_1_code 0 = .ok (.aload_n 0, 1) := by decide +kernel
theorem d_Words_init_1 : decode prog_8_method_1_code 1 = .ok (.invokespecial 3, 3) := by decide +kernel
theorem d_Words_init_4 : decode prog_8_method_1_code 4 = .ok (.aload_n 0, 1) := by decide +kernel
theorem d_Words_init_5 : decode prog_8_method_1_code 5 = .ok (.bipush 121, 2) := by decide +kernel
theorem d_Words_init_7 : decode prog_8_method_1_code 7 = .ok (.newarray .int, 2) := by decide +kernel
theorem d_Words_init_9 : decode prog_8_method_1_code 9 = .ok (.putfield 9, 3) := by decide +kernel
theorem d_Words_init_12 : decode prog_8_method_1_code 12 = .ok (.aload_n 0, 1) := by decide +kernel
theorem d_Words_init_13 : decode prog_8_method_1_code 13 = .ok (.bipush 121, 2) := by decide +kernel
theorem d_Words_init_15 : decode prog_8_method_1_code 15 = .ok (.newarray .int, 2) := by decide +kernel
theorem d_Words_init_17 : decode prog_8_method_1_code 17 = .ok (.putfield 15, 3) := by decide +kernel
theorem d_Words_init_20 : decode prog_8_method_1_code 20 = .ok (.aload_n 0, 1) := by decide +kernel
theorem d_Words_init_21 : decode prog_8_method_1_code 21 = .ok (.bipush 121, 2) := by decide +kernel
theorem d_Words_init_23 : decode prog_8_method_1_code 23 = .ok (.newarray .long, 2) := by decide +kernel
theorem d_Words_init_25 : decode prog_8_method_1_code 25 = .ok (.putfield 18, 3) := by decide +kernel
theorem d_Words_init_28 : decode prog_8_method_1_code 28 = .ok (.aload_n 0, 1) := by decide +kernel
theorem d_Words_init_29 : decode prog_8_method_1_code 29 = .ok (.iconst 0, 1) := by decide +kernel
theorem d_Words_init_30 : decode prog_8_method_1_code 30 = .ok (.putfield 22, 3) := by decide +kernel
theorem d_Words_init_33 : decode prog_8_method_1_code 33 = .ok (.return_, 1) := by decide +kernel
abbrev y_Reader_init : MethodName := ⟨"PermitRules$Reader", "<init>", "()V"⟩
abbrev cw_Reader_init : Cond := .code y_Reader_init prog_5_method_1_code 1 none
theorem d_Reader_init_0 : decode prog_5_method_1_code 0 = .ok (.aload_n 0, 1) := by decide +kernel
theorem d_Reader_init_1 : decode prog_5_method_1_code 1 = .ok (.invokespecial 3, 3) := by decide +kernel
theorem d_Reader_init_4 : decode prog_5_method_1_code 4 = .ok (.aload_n 0, 1) := by decide +kernel
theorem d_Reader_init_5 : decode prog_5_method_1_code 5 = .ok (.new 9, 3) := by decide +kernel
theorem d_Reader_init_8 : decode prog_5_method_1_code 8 = .ok (.dup, 1) := by decide +kernel
theorem d_Reader_init_9 : decode prog_5_method_1_code 9 = .ok (.invokespecial 11, 3) := by decide +kernel
theorem d_Reader_init_12 : decode prog_5_method_1_code 12 = .ok (.putfield 12, 3) := by decide +kernel
theorem d_Reader_init_15 : decode prog_5_method_1_code 15 = .ok (.return_, 1) := by decide +kernel
abbrev y_Reckoner_init : MethodName := ⟨"PermitRules$Reckoner", "<init>", "()V"⟩
abbrev cw_Reckoner_init : Cond := .code y_Reckoner_init prog_6_method_1_code 1 none
theorem d_Reckoner_init_0 : decode prog_6_method_1_code 0 = .ok (.aload_n 0, 1) := by decide +kernel
theorem d_Reckoner_init_1 : decode prog_6_method_1_code 1 = .ok (.invokespecial 3, 3) := by decide +kernel
theorem d_Reckoner_init_4 : decode prog_6_method_1_code 4 = .ok (.aload_n 0, 1) := by decide +kernel
theorem d_Reckoner_init_5 : decode prog_6_method_1_code 5 = .ok (.bipush 19, 2) := by decide +kernel
theorem d_Reckoner_init_7 : decode prog_6_method_1_code 7 = .ok (.newarray .long, 2) := by decide +kernel
theorem d_Reckoner_init_9 : decode prog_6_method_1_code 9 = .ok (.putfield 9, 3) := by decide +kernel
theorem d_Reckoner_init_12 : decode prog_6_method_1_code 12 = .ok (.aload_n 0, 1) := by decide +kernel
theorem d_Reckoner_init_13 : decode prog_6_method_1_code 13 = .ok (.bipush 19, 2) := by decide +kernel
theorem d_Reckoner_init_15 : decode prog_6_method_1_code 15 = .ok (.newarray .long, 2) := by decide +kernel
theorem d_Reckoner_init_17 : decode prog_6_method_1_code 17 = .ok (.putfield 15, 3) := by decide +kernel
theorem d_Reckoner_init_20 : decode prog_6_method_1_code 20 = .ok (.aload_n 0, 1) := by decide +kernel
theorem d_Reckoner_init_21 : decode prog_6_method_1_code 21 = .ok (.iconst 0, 1) := by decide +kernel
theorem d_Reckoner_init_22 : decode prog_6_method_1_code 22 = .ok (.putfield 18, 3) := by decide +kernel
theorem d_Reckoner_init_25 : decode prog_6_method_1_code 25 = .ok (.aload_n 0, 1) := by decide +kernel
theorem d_Reckoner_init_26 : decode prog_6_method_1_code 26 = .ok (.iconst 0, 1) := by decide +kernel
theorem d_Reckoner_init_27 : decode prog_6_method_1_code 27 = .ok (.putfield 22, 3) := by decide +kernel
theorem d_Reckoner_init_30 : decode prog_6_method_1_code 30 = .ok (.aload_n 0, 1) := by decide +kernel
theorem d_Reckoner_init_31 : decode prog_6_method_1_code 31 = .ok (.lconst 0, 1) := by decide +kernel
theorem d_Reckoner_init_32 : decode prog_6_method_1_code 32 = .ok (.putfield 25, 3) := by decide +kernel
theorem d_Reckoner_init_35 : decode prog_6_method_1_code 35 = .ok (.return_, 1) := by decide +kernel
abbrev y_Judge_init : MethodName := ⟨"PermitRules$Judge", "<init>", "()V"⟩
abbrev cw_Judge_init : Cond := .code y_Judge_init prog_4_method_1_code 1 none
theorem d_Judge_init_0 : decode prog_4_method_1_code 0 = .ok (.aload_n 0, 1) := by decide +kernel
theorem d_Judge_init_1 : decode prog_4_method_1_code 1 = .ok (.invokespecial 3, 3) := by decide +kernel
theorem d_Judge_init_4 : decode prog_4_method_1_code 4 = .ok (.aload_n 0, 1) := by decide +kernel
theorem d_Judge_init_5 : decode prog_4_method_1_code 5 = .ok (.new 9, 3) := by decide +kernel
theorem d_Judge_init_8 : decode prog_4_method_1_code 8 = .ok (.dup, 1) := by decide +kernel
theorem d_Judge_init_9 : decode prog_4_method_1_code 9 = .ok (.invokespecial 11, 3) := by decide +kernel
theorem d_Judge_init_12 : decode prog_4_method_1_code 12 = .ok (.putfield 12, 3) := by decide +kernel
theorem d_Judge_init_15 : decode prog_4_method_1_code 15 = .ok (.aload_n 0, 1) := by decide +kernel
theorem d_Judge_init_16 : decode prog_4_method_1_code 16 = .ok (.iconst 0, 1) := by decide +kernel
theorem d_Judge_init_17 : decode prog_4_method_1_code 17 = .ok (.putfield 18, 3) := by decide +kernel
theorem d_Judge_init_20 : decode prog_4_method_1_code 20 = .ok (.aload_n 0, 1) := by decide +kernel
theorem d_Judge_init_21 : decode prog_4_method_1_code 21 = .ok (.lconst 0, 1) := by decide +kernel
theorem d_Judge_init_22 : decode prog_4_method_1_code 22 = .ok (.putfield 22, 3) := by decide +kernel
theorem d_Judge_init_25 : decode prog_4_method_1_code 25 = .ok (.aload_n 0, 1) := by decide +kernel
theorem d_Judge_init_26 : decode prog_4_method_1_code 26 = .ok (.lconst 0, 1) := by decide +kernel
theorem d_Judge_init_27 : decode prog_4_method_1_code 27 = .ok (.putfield 26, 3) := by decide +kernel
theorem d_Judge_init_30 : decode prog_4_method_1_code 30 = .ok (.aload_n 0, 1) := by decide +kernel
theorem d_Judge_init_31 : decode prog_4_method_1_code 31 = .ok (.lconst 0, 1) := by decide +kernel
theorem d_Judge_init_32 : decode prog_4_method_1_code 32 = .ok (.putfield 29, 3) := by decide +kernel
theorem d_Judge_init_35 : decode prog_4_method_1_code 35 = .ok (.aload_n 0, 1) := by decide +kernel
theorem d_Judge_init_36 : decode prog_4_method_1_code 36 = .ok (.lconst 0, 1) := by decide +kernel
theorem d_Judge_init_37 : decode prog_4_method_1_code 37 = .ok (.putfield 32, 3) := by decide +kernel
theorem d_Judge_init_40 : decode prog_4_method_1_code 40 = .ok (.return_, 1) := by decide +kernel
abbrev y_Reader_takesFactor : MethodName := ⟨"PermitRules$Reader", "takesFactor", "(LPermitRules$Book;I)Z"⟩
abbrev cw_Reader_takesFactor : Cond := .code y_Reader_takesFactor prog_5_method_8_code 4 (some .boolean)
theorem d_Reader_takesFactor_0 : decode prog_5_method_8_code 0 = .ok (.aload_n 0, 1) := by decide +kernel
theorem d_Reader_takesFactor_1 : decode prog_5_method_8_code 1 = .ok (.getfield 12, 3) := by decide +kernel
theorem d_Reader_takesFactor_4 : decode prog_5_method_8_code 4 = .ok (.invokevirtual 31, 3) := by decide +kernel
theorem d_Reader_takesFactor_7 : decode prog_5_method_8_code 7 = .ok (.istore_n 3, 1) := by decide +kernel
theorem d_Reader_takesFactor_8 : decode prog_5_method_8_code 8 = .ok (.iload_n 3, 1) := by decide +kernel
theorem d_Reader_takesFactor_9 : decode prog_5_method_8_code 9 = .ok (.iconst 2, 1) := by decide +kernel
theorem d_Reader_takesFactor_10 : decode prog_5_method_8_code 10 = .ok (.if_icmp .eq 8, 3) := by decide +kernel
theorem d_Reader_takesFactor_13 : decode prog_5_method_8_code 13 = .ok (.iload_n 3, 1) := by decide +kernel
theorem d_Reader_takesFactor_14 : decode prog_5_method_8_code 14 = .ok (.iconst 3, 1) := by decide +kernel
theorem d_Reader_takesFactor_15 : decode prog_5_method_8_code 15 = .ok (.if_icmp .ne 24, 3) := by decide +kernel
theorem d_Reader_takesFactor_18 : decode prog_5_method_8_code 18 = .ok (.aload_n 1, 1) := by decide +kernel
theorem d_Reader_takesFactor_19 : decode prog_5_method_8_code 19 = .ok (.iload_n 3, 1) := by decide +kernel
theorem d_Reader_takesFactor_20 : decode prog_5_method_8_code 20 = .ok (.aload_n 0, 1) := by decide +kernel
theorem d_Reader_takesFactor_21 : decode prog_5_method_8_code 21 = .ok (.getfield 12, 3) := by decide +kernel
theorem d_Reader_takesFactor_24 : decode prog_5_method_8_code 24 = .ok (.invokevirtual 42, 3) := by decide +kernel
theorem d_Reader_takesFactor_27 : decode prog_5_method_8_code 27 = .ok (.invokevirtual 78, 3) := by decide +kernel
theorem d_Reader_takesFactor_30 : decode prog_5_method_8_code 30 = .ok (.aload_n 0, 1) := by decide +kernel
theorem d_Reader_takesFactor_31 : decode prog_5_method_8_code 31 = .ok (.getfield 12, 3) := by decide +kernel
theorem d_Reader_takesFactor_34 : decode prog_5_method_8_code 34 = .ok (.invokevirtual 50, 3) := by decide +kernel
theorem d_Reader_takesFactor_37 : decode prog_5_method_8_code 37 = .ok (.iconst 1, 1) := by decide +kernel
theorem d_Reader_takesFactor_38 : decode prog_5_method_8_code 38 = .ok (.ireturn, 1) := by decide +kernel
theorem d_Reader_takesFactor_39 : decode prog_5_method_8_code 39 = .ok (.iload_n 2, 1) := by decide +kernel
theorem d_Reader_takesFactor_40 : decode prog_5_method_8_code 40 = .ok (.bipush 8, 2) := by decide +kernel
theorem d_Reader_takesFactor_42 : decode prog_5_method_8_code 42 = .ok (.if_icmp .ge 15, 3) := by decide +kernel
theorem d_Reader_takesFactor_45 : decode prog_5_method_8_code 45 = .ok (.aload_n 0, 1) := by decide +kernel
theorem d_Reader_takesFactor_46 : decode prog_5_method_8_code 46 = .ok (.getfield 12, 3) := by decide +kernel
theorem d_Reader_takesFactor_49 : decode prog_5_method_8_code 49 = .ok (.bipush 40, 2) := by decide +kernel
theorem d_Reader_takesFactor_51 : decode prog_5_method_8_code 51 = .ok (.invokevirtual 35, 3) := by decide +kernel
theorem d_Reader_takesFactor_54 : decode prog_5_method_8_code 54 = .ok (.ifCond .ne 5, 3) := by decide +kernel
theorem d_Reader_takesFactor_57 : decode prog_5_method_8_code 57 = .ok (.iconst 0, 1) := by decide +kernel
theorem d_Reader_takesFactor_58 : decode prog_5_method_8_code 58 = .ok (.ireturn, 1) := by decide +kernel
theorem d_Reader_takesFactor_59 : decode prog_5_method_8_code 59 = .ok (.aload_n 0, 1) := by decide +kernel
theorem d_Reader_takesFactor_60 : decode prog_5_method_8_code 60 = .ok (.aload_n 1, 1) := by decide +kernel
theorem d_Reader_takesFactor_61 : decode prog_5_method_8_code 61 = .ok (.iload_n 2, 1) := by decide +kernel
theorem d_Reader_takesFactor_62 : decode prog_5_method_8_code 62 = .ok (.iconst 1, 1) := by decide +kernel
theorem d_Reader_takesFactor_63 : decode prog_5_method_8_code 63 = .ok (.iadd, 1) := by decide +kernel
theorem d_Reader_takesFactor_64 : decode prog_5_method_8_code 64 = .ok (.invokevirtual 60, 3) := by decide +kernel
theorem d_Reader_takesFactor_67 : decode prog_5_method_8_code 67 = .ok (.ifCond .eq 19, 3) := by decide +kernel
theorem d_Reader_takesFactor_70 : decode prog_5_method_8_code 70 = .ok (.aload_n 0, 1) := by decide +kernel
theorem d_Reader_takesFactor_71 : decode prog_5_method_8_code 71 = .ok (.getfield 12, 3) := by decide +kernel
theorem d_Reader_takesFactor_74 : decode prog_5_method_8_code 74 = .ok (.bipush 41, 2) := by decide +kernel
theorem d_Reader_takesFactor_76 : decode prog_5_method_8_code 76 = .ok (.invokevirtual 35, 3) := by decide +kernel
theorem d_Reader_takesFactor_79 : decode prog_5_method_8_code 79 = .ok (.ifCond .eq 7, 3) := by decide +kernel
theorem d_Reader_takesFactor_82 : decode prog_5_method_8_code 82 = .ok (.iconst 1, 1) := by decide +kernel
theorem d_Reader_takesFactor_83 : decode prog_5_method_8_code 83 = .ok (.goto 4, 3) := by decide +kernel
theorem d_Reader_takesFactor_86 : decode prog_5_method_8_code 86 = .ok (.iconst 0, 1) := by decide +kernel
theorem d_Reader_takesFactor_87 : decode prog_5_method_8_code 87 = .ok (.ireturn, 1) := by decide +kernel
abbrev y_Reader_takesTerm : MethodName := ⟨"PermitRules$Reader", "takesTerm", "(LPermitRules$Book;I)Z"⟩
abbrev cw_Reader_takesTerm : Cond := .code y_Reader_takesTerm prog_5_method_7_code 5 (some .boolean)
theorem d_Reader_takesTerm_0 : decode prog_5_method_7_code 0 = .ok (.aload_n 0, 1) := by decide +kernel
theorem d_Reader_takesTerm_1 : decode prog_5_method_7_code 1 = .ok (.aload_n 1, 1) := by decide +kernel
theorem d_Reader_takesTerm_2 : decode prog_5_method_7_code 2 = .ok (.iload_n 2, 1) := by decide +kernel
theorem d_Reader_takesTerm_3 : decode prog_5_method_7_code 3 = .ok (.invokevirtual 82, 3) := by decide +kernel
theorem d_Reader_takesTerm_6 : decode prog_5_method_7_code 6 = .ok (.ifCond .ne 5, 3) := by decide +kernel
theorem d_Reader_takesTerm_9 : decode prog_5_method_7_code 9 = .ok (.iconst 0, 1) := by decide +kernel
theorem d_Reader_takesTerm_10 : decode prog_5_method_7_code 10 = .ok (.ireturn, 1) := by decide +kernel
theorem d_Reader_takesTerm_11 : decode prog_5_method_7_code 11 = .ok (.iconst 0, 1) := by decide +kernel
theorem d_Reader_takesTerm_12 : decode prog_5_method_7_code 12 = .ok (.istore_n 3, 1) := by decide +kernel
theorem d_Reader_takesTerm_13 : decode prog_5_method_7_code 13 = .ok (.iload_n 3, 1) := by decide +kernel
theorem d_Reader_takesTerm_14 : decode prog_5_method_7_code 14 = .ok (.bipush 120, 2) := by decide +kernel
theorem d_Reader_takesTerm_16 : decode prog_5_method_7_code 16 = .ok (.if_icmp .ge 67, 3) := by decide +kernel
theorem d_Reader_takesTerm_19 : decode prog_5_method_7_code 19 = .ok (.aload_n 0, 1) := by decide +kernel
theorem d_Reader_takesTerm_20 : decode prog_5_method_7_code 20 = .ok (.getfield 12, 3) := by decide +kernel
theorem d_Reader_takesTerm_23 : decode prog_5_method_7_code 23 = .ok (.invokevirtual 31, 3) := by decide +kernel
theorem d_Reader_takesTerm_26 : decode prog_5_method_7_code 26 = .ok (.bipush 42, 2) := by decide +kernel
theorem d_Reader_takesTerm_28 : decode prog_5_method_7_code 28 = .ok (.if_icmp .eq 15, 3) := by decide +kernel
theorem d_Reader_takesTerm_31 : decode prog_5_method_7_code 31 = .ok (.aload_n 0, 1) := by decide +kernel
theorem d_Reader_takesTerm_32 : decode prog_5_method_7_code 32 = .ok (.getfield 12, 3) := by decide +kernel
theorem d_Reader_takesTerm_35 : decode prog_5_method_7_code 35 = .ok (.invokevirtual 31, 3) := by decide +kernel
theorem d_Reader_takesTerm_38 : decode prog_5_method_7_code 38 = .ok (.bipush 47, 2) := by decide +kernel
theorem d_Reader_takesTerm_40 : decode prog_5_method_7_code 40 = .ok (.if_icmp .ne 43, 3) := by decide +kernel
theorem d_Reader_takesTerm_43 : decode prog_5_method_7_code 43 = .ok (.aload_n 0, 1) := by decide +kernel
theorem d_Reader_takesTerm_44 : decode prog_5_method_7_code 44 = .ok (.getfield 12, 3) := by decide +kernel
theorem d_Reader_takesTerm_47 : decode prog_5_method_7_code 47 = .ok (.invokevirtual 31, 3) := by decide +kernel
theorem d_Reader_takesTerm_50 : decode prog_5_method_7_code 50 = .ok (.istore 4, 2) := by decide +kernel
theorem d_Reader_takesTerm_52 : decode prog_5_method_7_code 52 = .ok (.aload_n 0, 1) := by decide +kernel
theorem d_Reader_takesTerm_53 : decode prog_5_method_7_code 53 = .ok (.getfield 12, 3) := by decide +kernel
theorem d_Reader_takesTerm_56 : decode prog_5_method_7_code 56 = .ok (.invokevirtual 50, 3) := by decide +kernel
theorem d_Reader_takesTerm_59 : decode prog_5_method_7_code 59 = .ok (.aload_n 0, 1) := by decide +kernel
theorem d_Reader_takesTerm_60 : decode prog_5_method_7_code 60 = .ok (.aload_n 1, 1) := by decide +kernel
theorem d_Reader_takesTerm_61 : decode prog_5_method_7_code 61 = .ok (.iload_n 2, 1) := by decide +kernel
theorem d_Reader_takesTerm_62 : decode prog_5_method_7_code 62 = .ok (.invokevirtual 82, 3) := by decide +kernel
theorem d_Reader_takesTerm_65 : decode prog_5_method_7_code 65 = .ok (.ifCond .ne 5, 3) := by decide +kernel
theorem d_Reader_takesTerm_68 : decode prog_5_method_7_code 68 = .ok (.iconst 0, 1) := by decide +kernel
theorem d_Reader_takesTerm_69 : decode prog_5_method_7_code 69 = .ok (.ireturn, 1) := by decide +kernel
theorem d_Reader_takesTerm_70 : decode prog_5_method_7_code 70 = .ok (.aload_n 1, 1) := by decide +kernel
theorem d_Reader_takesTerm_71 : decode prog_5_method_7_code 71 = .ok (.iload 4, 2) := by decide +kernel
theorem d_Reader_takesTerm_73 : decode prog_5_method_7_code 73 = .ok (.lconst 0, 1) := by decide +kernel
theorem d_Reader_takesTerm_74 : decode prog_5_method_7_code 74 = .ok (.invokevirtual 78, 3) := by decide +kernel
theorem d_Reader_takesTerm_77 : decode prog_5_method_7_code 77 = .ok (.iinc 3 1, 3) := by decide +kernel
theorem d_Reader_takesTerm_80 : decode prog_5_method_7_code 80 = .ok (.goto (-67), 3) := by decide +kernel
theorem d_Reader_takesTerm_83 : decode prog_5_method_7_code 83 = .ok (.iconst 1, 1) := by decide +kernel
theorem d_Reader_takesTerm_84 : decode prog_5_method_7_code 84 = .ok (.ireturn, 1) := by decide +kernel
abbrev y_Reader_takesSide : MethodName := ⟨"PermitRules$Reader", "takesSide", "(LPermitRules$Book;I)Z"⟩
abbrev cw_Reader_takesSide : Cond := .code y_Reader_takesSide prog_5_method_6_code 6 (some .boolean)
theorem d_Reader_takesSide_0 : decode prog_5_method_6_code 0 = .ok (.aload_n 0, 1) := by decide +kernel
theorem d_Reader_takesSide_1 : decode prog_5_method_6_code 1 = .ok (.getfield 12, 3) := by decide +kernel
theorem d_Reader_takesSide_4 : decode prog_5_method_6_code 4 = .ok (.bipush 45, 2) := by decide +kernel
theorem d_Reader_takesSide_6 : decode prog_5_method_6_code 6 = .ok (.invokevirtual 35, 3) := by decide +kernel
theorem d_Reader_takesSide_9 : decode prog_5_method_6_code 9 = .ok (.istore_n 3, 1) := by decide +kernel
theorem d_Reader_takesSide_10 : decode prog_5_method_6_code 10 = .ok (.aload_n 0, 1) := by decide +kernel
theorem d_Reader_takesSide_11 : decode prog_5_method_6_code 11 = .ok (.aload_n 1, 1) := by decide +kernel
theorem d_Reader_takesSide_12 : decode prog_5_method_6_code 12 = .ok (.iload_n 2, 1) := by decide +kernel
theorem d_Reader_takesSide_13 : decode prog_5_method_6_code 13 = .ok (.invokevirtual 75, 3) := by decide +kernel
theorem d_Reader_takesSide_16 : decode prog_5_method_6_code 16 = .ok (.ifCond .ne 5, 3) := by decide +kernel
theorem d_Reader_takesSide_19 : decode prog_5_method_6_code 19 = .ok (.iconst 0, 1) := by decide +kernel
theorem d_Reader_takesSide_20 : decode prog_5_method_6_code 20 = .ok (.ireturn, 1) := by decide +kernel
theorem d_Reader_takesSide_21 : decode prog_5_method_6_code 21 = .ok (.iload_n 3, 1) := by decide +kernel
theorem d_Reader_takesSide_22 : decode prog_5_method_6_code 22 = .ok (.ifCond .eq 10, 3) := by decide +kernel
theorem d_Reader_takesSide_25 : decode prog_5_method_6_code 25 = .ok (.aload_n 1, 1) := by decide +kernel
theorem d_Reader_takesSide_26 : decode prog_5_method_6_code 26 = .ok (.bipush 6, 2) := by decide +kernel
theorem d_Reader_takesSide_28 : decode prog_5_method_6_code 28 = .ok (.lconst 0, 1) := by decide +kernel
theorem d_Reader_takesSide_29 : decode prog_5_method_6_code 29 = .ok (.invokevirtual 78, 3) := by decide +kernel
theorem d_Reader_takesSide_32 : decode prog_5_method_6_code 32 = .ok (.iconst 0, 1) := by decide +kernel
theorem d_Reader_takesSide_33 : decode prog_5_method_6_code 33 = .ok (.istore 4, 2) := by decide +kernel
theorem d_Reader_takesSide_35 : decode prog_5_method_6_code 35 = .ok (.iload 4, 2) := by decide +kernel
theorem d_Reader_takesSide_37 : decode prog_5_method_6_code 37 = .ok (.bipush 120, 2) := by decide +kernel
theorem d_Reader_takesSide_39 : decode prog_5_method_6_code 39 = .ok (.if_icmp .ge 67, 3) := by decide +kernel
theorem d_Reader_takesSide_42 : decode prog_5_method_6_code 42 = .ok (.aload_n 0, 1) := by decide +kernel
theorem d_Reader_takesSide_43 : decode prog_5_method_6_code 43 = .ok (.getfield 12, 3) := by decide +kernel
theorem d_Reader_takesSide_46 : decode prog_5_method_6_code 46 = .ok (.invokevirtual 31, 3) := by decide +kernel
theorem d_Reader_takesSide_49 : decode prog_5_method_6_code 49 = .ok (.bipush 43, 2) := by decide +kernel
theorem d_Reader_takesSide_51 : decode prog_5_method_6_code 51 = .ok (.if_icmp .eq 15, 3) := by decide +kernel
theorem d_Reader_takesSide_54 : decode prog_5_method_6_code 54 = .ok (.aload_n 0, 1) := by decide +kernel
theorem d_Reader_takesSide_55 : decode prog_5_method_6_code 55 = .ok (.getfield 12, 3) := by decide +kernel
theorem d_Reader_takesSide_58 : decode prog_5_method_6_code 58 = .ok (.invokevirtual 31, 3) := by decide +kernel
theorem d_Reader_takesSide_61 : decode prog_5_method_6_code 61 = .ok (.bipush 45, 2) := by decide +kernel
theorem d_Reader_takesSide_63 : decode prog_5_method_6_code 63 = .ok (.if_icmp .ne 43, 3) := by decide +kernel
theorem d_Reader_takesSide_66 : decode prog_5_method_6_code 66 = .ok (.aload_n 0, 1) := by decide +kernel
theorem d_Reader_takesSide_67 : decode prog_5_method_6_code 67 = .ok (.getfield 12, 3) := by decide +kernel
theorem d_Reader_takesSide_70 : decode prog_5_method_6_code 70 = .ok (.invokevirtual 31, 3) := by decide +kernel
theorem d_Reader_takesSide_73 : decode prog_5_method_6_code 73 = .ok (.istore 5, 2) := by decide +kernel
theorem d_Reader_takesSide_75 : decode prog_5_method_6_code 75 = .ok (.aload_n 0, 1) := by decide +kernel
theorem d_Reader_takesSide_76 : decode prog_5_method_6_code 76 = .ok (.getfield 12, 3) := by decide +kernel
theorem d_Reader_takesSide_79 : decode prog_5_method_6_code 79 = .ok (.invokevirtual 50, 3) := by decide +kernel
theorem d_Reader_takesSide_82 : decode prog_5_method_6_code 82 = .ok (.aload_n 0, 1) := by decide +kernel
theorem d_Reader_takesSide_83 : decode prog_5_method_6_code 83 = .ok (.aload_n 1, 1) := by decide +kernel
theorem d_Reader_takesSide_84 : decode prog_5_method_6_code 84 = .ok (.iload_n 2, 1) := by decide +kernel
theorem d_Reader_takesSide_85 : decode prog_5_method_6_code 85 = .ok (.invokevirtual 75, 3) := by decide +kernel
theorem d_Reader_takesSide_88 : decode prog_5_method_6_code 88 = .ok (.ifCond .ne 5, 3) := by decide +kernel
theorem d_Reader_takesSide_91 : decode prog_5_method_6_code 91 = .ok (.iconst 0, 1) := by decide +kernel
theorem d_Reader_takesSide_92 : decode prog_5_method_6_code 92 = .ok (.ireturn, 1) := by decide +kernel
theorem d_Reader_takesSide_93 : decode prog_5_method_6_code 93 = .ok (.aload_n 1, 1) := by decide +kernel
theorem d_Reader_takesSide_94 : decode prog_5_method_6_code 94 = .ok (.iload 5, 2) := by decide +kernel
theorem d_Reader_takesSide_96 : decode prog_5_method_6_code 96 = .ok (.lconst 0, 1) := by decide +kernel
theorem d_Reader_takesSide_97 : decode prog_5_method_6_code 97 = .ok (.invokevirtual 78, 3) := by decide +kernel
theorem d_Reader_takesSide_100 : decode prog_5_method_6_code 100 = .ok (.iinc 4 1, 3) := by decide +kernel
theorem d_Reader_takesSide_103 : decode prog_5_method_6_code 103 = .ok (.goto (-68), 3) := by decide +kernel
theorem d_Reader_takesSide_106 : decode prog_5_method_6_code 106 = .ok (.iconst 1, 1) := by decide +kernel
theorem d_Reader_takesSide_107 : decode prog_5_method_6_code 107 = .ok (.ireturn, 1) := by decide +kernel
abbrev y_Reader_compares : MethodName := ⟨"PermitRules$Reader", "compares", "(I)Z"⟩
abbrev cw_Reader_compares : Cond := .code y_Reader_compares prog_5_method_9_code 1 (some .boolean)
theorem d_Reader_compares_0 : decode prog_5_method_9_code 0 = .ok (.iload_n 0, 1) := by decide +kernel
theorem d_Reader_compares_1 : decode prog_5_method_9_code 1 = .ok (.bipush 60, 2) := by decide +kernel
theorem d_Reader_compares_3 : decode prog_5_method_9_code 3 = .ok (.if_icmp .eq 25, 3) := by decide +kernel
theorem d_Reader_compares_6 : decode prog_5_method_9_code 6 = .ok (.iload_n 0, 1) := by decide +kernel
theorem d_Reader_compares_7 : decode prog_5_method_9_code 7 = .ok (.iconst 4, 1) := by decide +kernel
theorem d_Reader_compares_8 : decode prog_5_method_9_code 8 = .ok (.if_icmp .eq 20, 3) := by decide +kernel
theorem d_Reader_compares_11 : decode prog_5_method_9_code 11 = .ok (.iload_n 0, 1) := by decide +kernel
theorem d_Reader_compares_12 : decode prog_5_method_9_code 12 = .ok (.bipush 61, 2) := by decide +kernel
theorem d_Reader_compares_14 : decode prog_5_method_9_code 14 = .ok (.if_icmp .eq 14, 3) := by decide +kernel
theorem d_Reader_compares_17 : decode prog_5_method_9_code 17 = .ok (.iload_n 0, 1) := by decide +kernel
theorem d_Reader_compares_18 : decode prog_5_method_9_code 18 = .ok (.iconst 5, 1) := by decide +kernel
theorem d_Reader_compares_19 : decode prog_5_method_9_code 19 = .ok (.if_icmp .eq 9, 3) := by decide +kernel
theorem d_Reader_compares_22 : decode prog_5_method_9_code 22 = .ok (.iload_n 0, 1) := by decide +kernel
theorem d_Reader_compares_23 : decode prog_5_method_9_code 23 = .ok (.bipush 62, 2) := by decide +kernel
theorem d_Reader_compares_25 : decode prog_5_method_9_code 25 = .ok (.if_icmp .ne 7, 3) := by decide +kernel
theorem d_Reader_compares_28 : decode prog_5_method_9_code 28 = .ok (.iconst 1, 1) := by decide +kernel
theorem d_Reader_compares_29 : decode prog_5_method_9_code 29 = .ok (.goto 4, 3) := by decide +kernel
theorem d_Reader_compares_32 : decode prog_5_method_9_code 32 = .ok (.iconst 0, 1) := by decide +kernel
theorem d_Reader_compares_33 : decode prog_5_method_9_code 33 = .ok (.ireturn, 1) := by decide +kernel
abbrev y_Reader_place : MethodName := ⟨"PermitRules$Reader", "place", "()I"⟩
abbrev cw_Reader_place : Cond := .code y_Reader_place prog_5_method_3_code 1 (some .int)
theorem d_Reader_place_0 : decode prog_5_method_3_code 0 = .ok (.aload_n 0, 1) := by decide +kernel
theorem d_Reader_place_1 : decode prog_5_method_3_code 1 = .ok (.getfield 12, 3) := by decide +kernel
theorem d_Reader_place_4 : decode prog_5_method_3_code 4 = .ok (.invokevirtual 39, 3) := by decide +kernel
theorem d_Reader_place_7 : decode prog_5_method_3_code 7 = .ok (.ireturn, 1) := by decide +kernel
abbrev y_Reader_takesClause : MethodName := ⟨"PermitRules$Reader", "takesClause", "(LPermitRules$Book;)Z"⟩
abbrev cw_Reader_takesClause : Cond := .code y_Reader_takesClause prog_5_method_5_code 4 (some .boolean)
theorem d_Reader_takesClause_0 : decode prog_5_method_5_code 0 = .ok (.aload_n 0, 1) := by decide +kernel
theorem d_Reader_takesClause_1 : decode prog_5_method_5_code 1 = .ok (.aload_n 1, 1) := by decide +kernel
theorem d_Reader_takesClause_2 : decode prog_5_method_5_code 2 = .ok (.iconst 0, 1) := by decide +kernel
theorem d_Reader_takesClause_3 : decode prog_5_method_5_code 3 = .ok (.invokevirtual 60, 3) := by decide +kernel
theorem d_Reader_takesClause_6 : decode prog_5_method_5_code 6 = .ok (.ifCond .ne 5, 3) := by decide +kernel
theorem d_Reader_takesClause_9 : decode prog_5_method_5_code 9 = .ok (.iconst 0, 1) := by decide +kernel
theorem d_Reader_takesClause_10 : decode prog_5_method_5_code 10 = .ok (.ireturn, 1) := by decide +kernel
theorem d_Reader_takesClause_11 : decode prog_5_method_5_code 11 = .ok (.aload_n 0, 1) := by decide +kernel
theorem d_Reader_takesClause_12 : decode prog_5_method_5_code 12 = .ok (.getfield 12, 3) := by decide +kernel
theorem d_Reader_takesClause_15 : decode prog_5_method_5_code 15 = .ok (.invokevirtual 31, 3) := by decide +kernel
theorem d_Reader_takesClause_18 : decode prog_5_method_5_code 18 = .ok (.istore_n 2, 1) := by decide +kernel
theorem d_Reader_takesClause_19 : decode prog_5_method_5_code 19 = .ok (.iload_n 2, 1) := by decide +kernel
theorem d_Reader_takesClause_20 : decode prog_5_method_5_code 20 = .ok (.invokestatic 64, 3) := by decide +kernel
theorem d_Reader_takesClause_23 : decode prog_5_method_5_code 23 = .ok (.ifCond .ne 5, 3) := by decide +kernel
theorem d_Reader_takesClause_26 : decode prog_5_method_5_code 26 = .ok (.iconst 0, 1) := by decide +kernel
theorem d_Reader_takesClause_27 : decode prog_5_method_5_code 27 = .ok (.ireturn, 1) := by decide +kernel
theorem d_Reader_takesClause_28 : decode prog_5_method_5_code 28 = .ok (.aload_n 0, 1) := by decide +kernel
theorem d_Reader_takesClause_29 : decode prog_5_method_5_code 29 = .ok (.getfield 12, 3) := by decide +kernel
theorem d_Reader_takesClause_32 : decode prog_5_method_5_code 32 = .ok (.invokevirtual 50, 3) := by decide +kernel
theorem d_Reader_takesClause_35 : decode prog_5_method_5_code 35 = .ok (.aload_n 1, 1) := by decide +kernel
theorem d_Reader_takesClause_36 : decode prog_5_method_5_code 36 = .ok (.getfield 67, 3) := by decide +kernel
theorem d_Reader_takesClause_39 : decode prog_5_method_5_code 39 = .ok (.istore_n 3, 1) := by decide +kernel
theorem d_Reader_takesClause_40 : decode prog_5_method_5_code 40 = .ok (.aload_n 0, 1) := by decide +kernel
theorem d_Reader_takesClause_41 : decode prog_5_method_5_code 41 = .ok (.aload_n 1, 1) := by decide +kernel
theorem d_Reader_takesClause_42 : decode prog_5_method_5_code 42 = .ok (.iconst 0, 1) := by decide +kernel
theorem d_Reader_takesClause_43 : decode prog_5_method_5_code 43 = .ok (.invokevirtual 60, 3) := by decide +kernel
theorem d_Reader_takesClause_46 : decode prog_5_method_5_code 46 = .ok (.ifCond .ne 5, 3) := by decide +kernel
theorem d_Reader_takesClause_49 : decode prog_5_method_5_code 49 = .ok (.iconst 0, 1) := by decide +kernel
theorem d_Reader_takesClause_50 : decode prog_5_method_5_code 50 = .ok (.ireturn, 1) := by decide +kernel
theorem d_Reader_takesClause_51 : decode prog_5_method_5_code 51 = .ok (.aload_n 1, 1) := by decide +kernel
theorem d_Reader_takesClause_52 : decode prog_5_method_5_code 52 = .ok (.iload_n 2, 1) := by decide +kernel
theorem d_Reader_takesClause_53 : decode prog_5_method_5_code 53 = .ok (.iload_n 3, 1) := by decide +kernel
theorem d_Reader_takesClause_54 : decode prog_5_method_5_code 54 = .ok (.invokevirtual 71, 3) := by decide +kernel
theorem d_Reader_takesClause_57 : decode prog_5_method_5_code 57 = .ok (.iconst 1, 1) := by decide +kernel
theorem d_Reader_takesClause_58 : decode prog_5_method_5_code 58 = .ok (.ireturn, 1) := by decide +kernel
abbrev y_Reader_takesRule : MethodName := ⟨"PermitRules$Reader", "takesRule", "(LPermitRules$Book;)Z"⟩
abbrev cw_Reader_takesRule : Cond := .code y_Reader_takesRule prog_5_method_4_code 6 (some .boolean)
theorem d_Reader_takesRule_0 : decode prog_5_method_4_code 0 = .ok (.aload_n 0, 1) := by decide +kernel
theorem d_Reader_takesRule_1 : decode prog_5_method_4_code 1 = .ok (.getfield 12, 3) := by decide +kernel
theorem d_Reader_takesRule_4 : decode prog_5_method_4_code 4 = .ok (.invokevirtual 42, 3) := by decide +kernel
theorem d_Reader_takesRule_7 : decode prog_5_method_4_code 7 = .ok (.lstore_n 2, 1) := by decide +kernel
theorem d_Reader_takesRule_8 : decode prog_5_method_4_code 8 = .ok (.aload_n 0, 1) := by decide +kernel
theorem d_Reader_takesRule_9 : decode prog_5_method_4_code 9 = .ok (.getfield 12, 3) := by decide +kernel
theorem d_Reader_takesRule_12 : decode prog_5_method_4_code 12 = .ok (.invokevirtual 31, 3) := by decide +kernel
theorem d_Reader_takesRule_15 : decode prog_5_method_4_code 15 = .ok (.iconst 3, 1) := by decide +kernel
theorem d_Reader_takesRule_16 : decode prog_5_method_4_code 16 = .ok (.if_icmp .ne 11, 3) := by decide +kernel
theorem d_Reader_takesRule_19 : decode prog_5_method_4_code 19 = .ok (.aload_n 1, 1) := by decide +kernel
theorem d_Reader_takesRule_20 : decode prog_5_method_4_code 20 = .ok (.lload_n 2, 1) := by decide +kernel
theorem d_Reader_takesRule_21 : decode prog_5_method_4_code 21 = .ok (.invokevirtual 46, 3) := by decide +kernel
theorem d_Reader_takesRule_24 : decode prog_5_method_4_code 24 = .ok (.ifCond .ne 5, 3) := by decide +kernel
theorem d_Reader_takesRule_27 : decode prog_5_method_4_code 27 = .ok (.iconst 0, 1) := by decide +kernel
theorem d_Reader_takesRule_28 : decode prog_5_method_4_code 28 = .ok (.ireturn, 1) := by decide +kernel
theorem d_Reader_takesRule_29 : decode prog_5_method_4_code 29 = .ok (.aload_n 0, 1) := by decide +kernel
theorem d_Reader_takesRule_30 : decode prog_5_method_4_code 30 = .ok (.getfield 12, 3) := by decide +kernel
theorem d_Reader_takesRule_33 : decode prog_5_method_4_code 33 = .ok (.invokevirtual 50, 3) := by decide +kernel
theorem d_Reader_takesRule_36 : decode prog_5_method_4_code 36 = .ok (.aload_n 0, 1) := by decide +kernel
theorem d_Reader_takesRule_37 : decode prog_5_method_4_code 37 = .ok (.getfield 12, 3) := by decide +kernel
theorem d_Reader_takesRule_40 : decode prog_5_method_4_code 40 = .ok (.bipush 58, 2) := by decide +kernel
theorem d_Reader_takesRule_42 : decode prog_5_method_4_code 42 = .ok (.invokevirtual 35, 3) := by decide +kernel
theorem d_Reader_takesRule_45 : decode prog_5_method_4_code 45 = .ok (.ifCond .eq 11, 3) := by decide +kernel
theorem d_Reader_takesRule_48 : decode prog_5_method_4_code 48 = .ok (.aload_n 0, 1) := by decide +kernel
theorem d_Reader_takesRule_49 : decode prog_5_method_4_code 49 = .ok (.aload_n 1, 1) := by decide +kernel
theorem d_Reader_takesRule_50 : decode prog_5_method_4_code 50 = .ok (.invokevirtual 53, 3) := by decide +kernel
theorem d_Reader_takesRule_53 : decode prog_5_method_4_code 53 = .ok (.ifCond .ne 5, 3) := by decide +kernel
theorem d_Reader_takesRule_56 : decode prog_5_method_4_code 56 = .ok (.iconst 0, 1) := by decide +kernel
theorem d_Reader_takesRule_57 : decode prog_5_method_4_code 57 = .ok (.ireturn, 1) := by decide +kernel
theorem d_Reader_takesRule_58 : decode prog_5_method_4_code 58 = .ok (.iconst 0, 1) := by decide +kernel
theorem d_Reader_takesRule_59 : decode prog_5_method_4_code 59 = .ok (.istore 4, 2) := by decide +kernel
theorem d_Reader_takesRule_61 : decode prog_5_method_4_code 61 = .ok (.iload 4, 2) := by decide +kernel
theorem d_Reader_takesRule_63 : decode prog_5_method_4_code 63 = .ok (.bipush 120, 2) := by decide +kernel
theorem d_Reader_takesRule_65 : decode prog_5_method_4_code 65 = .ok (.if_icmp .ge 38, 3) := by decide +kernel
theorem d_Reader_takesRule_68 : decode prog_5_method_4_code 68 = .ok (.aload_n 0, 1) := by decide +kernel
theorem d_Reader_takesRule_69 : decode prog_5_method_4_code 69 = .ok (.getfield 12, 3) := by decide +kernel
theorem d_Reader_takesRule_72 : decode prog_5_method_4_code 72 = .ok (.invokevirtual 31, 3) := by decide +kernel
theorem d_Reader_takesRule_75 : decode prog_5_method_4_code 75 = .ok (.bipush 33, 2) := by decide +kernel
theorem d_Reader_takesRule_77 : decode prog_5_method_4_code 77 = .ok (.if_icmp .ne 26, 3) := by decide +kernel
theorem d_Reader_takesRule_80 : decode prog_5_method_4_code 80 = .ok (.aload_n 0, 1) := by decide +kernel
theorem d_Reader_takesRule_81 : decode prog_5_method_4_code 81 = .ok (.getfield 12, 3) := by decide +kernel
theorem d_Reader_takesRule_84 : decode prog_5_method_4_code 84 = .ok (.invokevirtual 50, 3) := by decide +kernel
theorem d_Reader_takesRule_87 : decode prog_5_method_4_code 87 = .ok (.aload_n 0, 1) := by decide +kernel
theorem d_Reader_takesRule_88 : decode prog_5_method_4_code 88 = .ok (.aload_n 1, 1) := by decide +kernel
theorem d_Reader_takesRule_89 : decode prog_5_method_4_code 89 = .ok (.invokevirtual 53, 3) := by decide +kernel
theorem d_Reader_takesRule_92 : decode prog_5_method_4_code 92 = .ok (.ifCond .ne 5, 3) := by decide +kernel
theorem d_Reader_takesRule_95 : decode prog_5_method_4_code 95 = .ok (.iconst 0, 1) := by decide +kernel
theorem d_Reader_takesRule_96 : decode prog_5_method_4_code 96 = .ok (.ireturn, 1) := by decide +kernel
theorem d_Reader_takesRule_97 : decode prog_5_method_4_code 97 = .ok (.iinc 4 1, 3) := by decide +kernel
theorem d_Reader_takesRule_100 : decode prog_5_method_4_code 100 = .ok (.goto (-39), 3) := by decide +kernel
theorem d_Reader_takesRule_103 : decode prog_5_method_4_code 103 = .ok (.lconst 0, 1) := by decide +kernel
theorem d_Reader_takesRule_104 : decode prog_5_method_4_code 104 = .ok (.lstore 4, 2) := by decide +kernel
theorem d_Reader_takesRule_106 : decode prog_5_method_4_code 106 = .ok (.aload_n 0, 1) := by decide +kernel
theorem d_Reader_takesRule_107 : decode prog_5_method_4_code 107 = .ok (.getfield 12, 3) := by decide +kernel
theorem d_Reader_takesRule_110 : decode prog_5_method_4_code 110 = .ok (.bipush 64, 2) := by decide +kernel
theorem d_Reader_takesRule_112 : decode prog_5_method_4_code 112 = .ok (.invokevirtual 35, 3) := by decide +kernel
theorem d_Reader_takesRule_115 : decode prog_5_method_4_code 115 = .ok (.ifCond .eq 25, 3) := by decide +kernel
theorem d_Reader_takesRule_118 : decode prog_5_method_4_code 118 = .ok (.aload_n 0, 1) := by decide +kernel
theorem d_Reader_takesRule_119 : decode prog_5_method_4_code 119 = .ok (.getfield 12, 3) := by decide +kernel
theorem d_Reader_takesRule_122 : decode prog_5_method_4_code 122 = .ok (.invokevirtual 42, 3) := by decide +kernel
theorem d_Reader_takesRule_125 : decode prog_5_method_4_code 125 = .ok (.lstore 4, 2) := by decide +kernel
theorem d_Reader_takesRule_127 : decode prog_5_method_4_code 127 = .ok (.aload_n 0, 1) := by decide +kernel
theorem d_Reader_takesRule_128 : decode prog_5_method_4_code 128 = .ok (.getfield 12, 3) := by decide +kernel
theorem d_Reader_takesRule_131 : decode prog_5_method_4_code 131 = .ok (.iconst 2, 1) := by decide +kernel
theorem d_Reader_takesRule_132 : decode prog_5_method_4_code 132 = .ok (.invokevirtual 35, 3) := by decide +kernel
theorem d_Reader_takesRule_135 : decode prog_5_method_4_code 135 = .ok (.ifCond .ne 5, 3) := by decide +kernel
theorem d_Reader_takesRule_138 : decode prog_5_method_4_code 138 = .ok (.iconst 0, 1) := by decide +kernel
theorem d_Reader_takesRule_139 : decode prog_5_method_4_code 139 = .ok (.ireturn, 1) := by decide +kernel
theorem d_Reader_takesRule_140 : decode prog_5_method_4_code 140 = .ok (.aload_n 1, 1) := by decide +kernel
theorem d_Reader_takesRule_141 : decode prog_5_method_4_code 141 = .ok (.lload_n 2, 1) := by decide +kernel
theorem d_Reader_takesRule_142 : decode prog_5_method_4_code 142 = .ok (.lload 4, 2) := by decide +kernel
theorem d_Reader_takesRule_144 : decode prog_5_method_4_code 144 = .ok (.invokevirtual 56, 3) := by decide +kernel
theorem d_Reader_takesRule_147 : decode prog_5_method_4_code 147 = .ok (.iconst 1, 1) := by decide +kernel
theorem d_Reader_takesRule_148 : decode prog_5_method_4_code 148 = .ok (.ireturn, 1) := by decide +kernel
abbrev y_Reader_takes : MethodName := ⟨"PermitRules$Reader", "takes", "(LPermitRules$Text;LPermitRules$Book;)Z"⟩
abbrev cw_Reader_takes : Cond := .code y_Reader_takes prog_5_method_2_code 4 (some .boolean)
theorem d_Reader_takes_0 : decode prog_5_method_2_code 0 = .ok (.aload_n 0, 1) := by decide +kernel
theorem d_Reader_takes_1 : decode prog_5_method_2_code 1 = .ok (.getfield 12, 3) := by decide +kernel
theorem d_Reader_takes_4 : decode prog_5_method_2_code 4 = .ok (.aload_n 1, 1) := by decide +kernel
theorem d_Reader_takes_5 : decode prog_5_method_2_code 5 = .ok (.invokevirtual 18, 3) := by decide +kernel
theorem d_Reader_takes_8 : decode prog_5_method_2_code 8 = .ok (.aload_n 2, 1) := by decide +kernel
theorem d_Reader_takes_9 : decode prog_5_method_2_code 9 = .ok (.invokevirtual 22, 3) := by decide +kernel
theorem d_Reader_takes_12 : decode prog_5_method_2_code 12 = .ok (.iconst 0, 1) := by decide +kernel
theorem d_Reader_takes_13 : decode prog_5_method_2_code 13 = .ok (.istore_n 3, 1) := by decide +kernel
theorem d_Reader_takes_14 : decode prog_5_method_2_code 14 = .ok (.iload_n 3, 1) := by decide +kernel
theorem d_Reader_takes_15 : decode prog_5_method_2_code 15 = .ok (.bipush 12, 2) := by decide +kernel
theorem d_Reader_takes_17 : decode prog_5_method_2_code 17 = .ok (.if_icmp .gt 57, 3) := by decide +kernel
theorem d_Reader_takes_20 : decode prog_5_method_2_code 20 = .ok (.aload_n 0, 1) := by decide +kernel
theorem d_Reader_takes_21 : decode prog_5_method_2_code 21 = .ok (.aload_n 2, 1) := by decide +kernel
theorem d_Reader_takes_22 : decode prog_5_method_2_code 22 = .ok (.invokevirtual 27, 3) := by decide +kernel
theorem d_Reader_takes_25 : decode prog_5_method_2_code 25 = .ok (.ifCond .ne 5, 3) := by decide +kernel
theorem d_Reader_takes_28 : decode prog_5_method_2_code 28 = .ok (.iconst 0, 1) := by decide +kernel
theorem d_Reader_takes_29 : decode prog_5_method_2_code 29 = .ok (.ireturn, 1) := by decide +kernel
theorem d_Reader_takes_30 : decode prog_5_method_2_code 30 = .ok (.aload_n 0, 1) := by decide +kernel
theorem d_Reader_takes_31 : decode prog_5_method_2_code 31 = .ok (.getfield 12, 3) := by decide +kernel
theorem d_Reader_takes_34 : decode prog_5_method_2_code 34 = .ok (.invokevirtual 31, 3) := by decide +kernel
theorem d_Reader_takes_37 : decode prog_5_method_2_code 37 = .ok (.ifCond .ne 5, 3) := by decide +kernel
theorem d_Reader_takes_40 : decode prog_5_method_2_code 40 = .ok (.iconst 1, 1) := by decide +kernel
theorem d_Reader_takes_41 : decode prog_5_method_2_code 41 = .ok (.ireturn, 1) := by decide +kernel
theorem d_Reader_takes_42 : decode prog_5_method_2_code 42 = .ok (.aload_n 0, 1) := by decide +kernel
theorem d_Reader_takes_43 : decode prog_5_method_2_code 43 = .ok (.getfield 12, 3) := by decide +kernel
theorem d_Reader_takes_46 : decode prog_5_method_2_code 46 = .ok (.bipush 59, 2) := by decide +kernel
theorem d_Reader_takes_48 : decode prog_5_method_2_code 48 = .ok (.invokevirtual 35, 3) := by decide +kernel
theorem d_Reader_takes_51 : decode prog_5_method_2_code 51 = .ok (.ifCond .ne 5, 3) := by decide +kernel
theorem d_Reader_takes_54 : decode prog_5_method_2_code 54 = .ok (.iconst 0, 1) := by decide +kernel
theorem d_Reader_takes_55 : decode prog_5_method_2_code 55 = .ok (.ireturn, 1) := by decide +kernel
theorem d_Reader_takes_56 : decode prog_5_method_2_code 56 = .ok (.aload_n 0, 1) := by decide +kernel
theorem d_Reader_takes_57 : decode prog_5_method_2_code 57 = .ok (.getfield 12, 3) := by decide +kernel
theorem d_Reader_takes_60 : decode prog_5_method_2_code 60 = .ok (.invokevirtual 31, 3) := by decide +kernel
theorem d_Reader_takes_63 : decode prog_5_method_2_code 63 = .ok (.ifCond .ne 5, 3) := by decide +kernel
theorem d_Reader_takes_66 : decode prog_5_method_2_code 66 = .ok (.iconst 1, 1) := by decide +kernel
theorem d_Reader_takes_67 : decode prog_5_method_2_code 67 = .ok (.ireturn, 1) := by decide +kernel
theorem d_Reader_takes_68 : decode prog_5_method_2_code 68 = .ok (.iinc 3 1, 3) := by decide +kernel
theorem d_Reader_takes_71 : decode prog_5_method_2_code 71 = .ok (.goto (-57), 3) := by decide +kernel
theorem d_Reader_takes_74 : decode prog_5_method_2_code 74 = .ok (.iconst 0, 1) := by decide +kernel
theorem d_Reader_takes_75 : decode prog_5_method_2_code 75 = .ok (.ireturn, 1) := by decide +kernel
