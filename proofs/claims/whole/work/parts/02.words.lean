def bgw : List Cond := lw_tbl.filter goodWord
theorem bg_good : ∀ w ∈ bgw, goodWord w = true := fun _ h => (List.mem_filter.mp h).2
theorem bg_in : ∀ w ∈ bgw, w ∈ lw_tbl := fun _ h => (List.mem_filter.mp h).1
theorem gb_all {z : Cond} (hz : z ∈ bgw) : GoodIn bgw (z :: bgw) := fun w hw => by
  rcases List.mem_cons.mp hw with rfl | h
  · exact ⟨hz, good_of_word (bg_good _ hz)⟩
  · exact ⟨h, good_of_word (bg_good _ h)⟩
theorem mbx {w : Cond} (i : Nat) (h : lw_tbl[i]? = some w) (g : goodWord w = true) : w ∈ bgw := List.mem_filter.mpr ⟨List.mem_of_getElem? h, g⟩
theorem mt_x {w : Cond} (h : w ∈ tables_1) (g : goodWord w = true) : w ∈ bgw := List.mem_filter.mpr ⟨List.mem_append_right _ h, g⟩
theorem mt_1 {w : Cond} (i : Nat) (h : tables_1_1[i]? = some w) (g : goodWord w = true) : w ∈ bgw := mt_x (List.mem_append_left _ (List.mem_of_getElem? h)) g
theorem mt_2 {w : Cond} (i : Nat) (h : tables_1_2[i]? = some w) (g : goodWord w = true) : w ∈ bgw := mt_x (List.mem_append_right _ (List.mem_append_left _ (List.mem_of_getElem? h))) g
theorem mt_3 {w : Cond} (i : Nat) (h : tables_1_3[i]? = some w) (g : goodWord w = true) : w ∈ bgw := mt_x (List.mem_append_right _ (List.mem_append_right _ (List.mem_append_left _ (List.mem_of_getElem? h)))) g
theorem mt_4 {w : Cond} (i : Nat) (h : tables_1_4[i]? = some w) (g : goodWord w = true) : w ∈ bgw := mt_x (List.mem_append_right _ (List.mem_append_right _ (List.mem_append_right _ (List.mem_of_getElem? h)))) g
theorem mb_0 : (.initialized "PermitRulesLaw" : Cond) ∈ bgw := mt_1 0 rfl (by decide +kernel)
theorem mb_1 : (.initialized "PermitRules" : Cond) ∈ bgw := mt_1 1 rfl (by decide +kernel)
theorem mb_2 : (.initialized "PermitRules$Text" : Cond) ∈ bgw := mt_1 2 rfl (by decide +kernel)
theorem mb_3 : (.initialized "PermitRules$Reader" : Cond) ∈ bgw := mt_1 3 rfl (by decide +kernel)
theorem mb_4 : (.initialized "PermitRules$Words" : Cond) ∈ bgw := mt_1 4 rfl (by decide +kernel)
theorem mb_5 : (.initialized "PermitRules$Facts" : Cond) ∈ bgw := mt_1 5 rfl (by decide +kernel)
theorem mb_6 : (.initialized "PermitRules$Judge" : Cond) ∈ bgw := mt_1 6 rfl (by decide +kernel)
theorem mb_7 : (.initialized "PermitRules$Reckoner" : Cond) ∈ bgw := mt_1 7 rfl (by decide +kernel)
theorem mb_8 : (.initialized "PermitRules$Book" : Cond) ∈ bgw := mt_1 8 rfl (by decide +kernel)
theorem mb_9 : (.initialized "PermitRulesModel" : Cond) ∈ bgw := mt_1 9 rfl (by decide +kernel)
theorem mb_10 : (.initialized "java/lang/Throwable" : Cond) ∈ bgw := mt_1 10 rfl (by decide +kernel)
theorem mb_11 : (.initialized "java/lang/Exception" : Cond) ∈ bgw := mt_1 11 rfl (by decide +kernel)
theorem mb_12 : (.initialized "java/lang/RuntimeException" : Cond) ∈ bgw := mt_1 12 rfl (by decide +kernel)
theorem mb_13 : (.initialized "java/lang/IllegalArgumentException" : Cond) ∈ bgw := mt_1 13 rfl (by decide +kernel)
theorem mb_14 : (.initialized "java/lang/IllegalStateException" : Cond) ∈ bgw := mt_1 14 rfl (by decide +kernel)
theorem mb_15 : (.classLink "PermitRulesLaw" 8 "PermitRules" : Cond) ∈ bgw := mt_1 15 rfl (by decide +kernel)
theorem mb_16 : (.instantiable "PermitRules" 9 : Cond) ∈ bgw := mt_1 16 rfl (by decide +kernel)
theorem mb_17 : (.methodLink "PermitRulesLaw" 49 (⟨"PermitRules", "<init>", "()V"⟩ : MethodName) : Cond) ∈ bgw := mt_1 17 rfl (by decide +kernel)
theorem mb_18 : (.instanceMethod (⟨"PermitRules", "<init>", "()V"⟩ : MethodName) : Cond) ∈ bgw := mt_1 18 rfl (by decide +kernel)
theorem mb_19 : (.code (⟨"PermitRules", "<init>", "()V"⟩ : MethodName) prog_1_method_1_code 1 none : Cond) ∈ bgw := mt_1 19 rfl (by decide +kernel)
theorem mb_20 : (.methodLink "PermitRules" 3 (⟨"java/lang/Object", "<init>", "()V"⟩ : MethodName) : Cond) ∈ bgw := mt_1 20 rfl (by decide +kernel)
theorem mb_21 : (.instanceMethod (⟨"java/lang/Object", "<init>", "()V"⟩ : MethodName) : Cond) ∈ bgw := mt_1 21 rfl (by decide +kernel)
theorem mb_22 : (.code (⟨"java/lang/Object", "<init>", "()V"⟩ : MethodName) object_method_1_code 1 none : Cond) ∈ bgw := mt_1 22 rfl (by decide +kernel)
theorem mb_23 : (.classLink "PermitRules" 9 "PermitRules$Text" : Cond) ∈ bgw := mt_1 23 rfl (by decide +kernel)
theorem mb_24 : (.instantiable "PermitRules$Text" 2 : Cond) ∈ bgw := mt_1 24 rfl (by decide +kernel)
theorem mb_26 : (.instanceMethod (⟨"PermitRules$Text", "<init>", "()V"⟩ : MethodName) : Cond) ∈ bgw := mt_1 26 rfl (by decide +kernel)
theorem mb_27 : (.code (⟨"PermitRules$Text", "<init>", "()V"⟩ : MethodName) prog_7_method_1_code 1 none : Cond) ∈ bgw := mt_1 27 rfl (by decide +kernel)
theorem mb_28 : (.methodLink "PermitRules$Text" 3 (⟨"java/lang/Object", "<init>", "()V"⟩ : MethodName) : Cond) ∈ bgw := mt_1 28 rfl (by decide +kernel)
theorem mb_29 : (.fieldLink "PermitRules$Text" 9 "PermitRules$Text" "characters" "[B" : Cond) ∈ bgw := mt_1 29 rfl (by decide +kernel)
theorem mb_30 : (.fieldLink "PermitRules$Text" 15 "PermitRules$Text" "length" "I" : Cond) ∈ bgw := mt_1 30 rfl (by decide +kernel)
theorem mb_32 : (.laysFinal "PermitRules$Text" "PermitRules$Text" "characters" "[B" : Cond) ∈ bgw := mt_1 32 rfl (by decide +kernel)
theorem mb_34 : (.lays "PermitRules$Text" "PermitRules$Text" "length" "I" : Cond) ∈ bgw := mt_1 34 rfl (by decide +kernel)
theorem mb_37 : (.arrayClass .byte : Cond) ∈ bgw := mt_1 37 rfl (by decide +kernel)
theorem mb_38 : (.classLink "PermitRules" 16 "PermitRules$Reader" : Cond) ∈ bgw := mt_1 38 rfl (by decide +kernel)
theorem mb_39 : (.instantiable "PermitRules$Reader" 1 : Cond) ∈ bgw := mt_1 39 rfl (by decide +kernel)
theorem mb_41 : (.instanceMethod (⟨"PermitRules$Reader", "<init>", "()V"⟩ : MethodName) : Cond) ∈ bgw := mt_1 41 rfl (by decide +kernel)
theorem mb_42 : (.code (⟨"PermitRules$Reader", "<init>", "()V"⟩ : MethodName) prog_5_method_1_code 1 none : Cond) ∈ bgw := mt_1 42 rfl (by decide +kernel)
theorem mb_43 : (.methodLink "PermitRules$Reader" 3 (⟨"java/lang/Object", "<init>", "()V"⟩ : MethodName) : Cond) ∈ bgw := mt_1 43 rfl (by decide +kernel)
theorem mb_44 : (.classLink "PermitRules$Reader" 9 "PermitRules$Words" : Cond) ∈ bgw := mt_1 44 rfl (by decide +kernel)
theorem mb_45 : (.instantiable "PermitRules$Words" 4 : Cond) ∈ bgw := mt_1 45 rfl (by decide +kernel)
theorem mb_47 : (.instanceMethod (⟨"PermitRules$Words", "<init>", "()V"⟩ : MethodName) : Cond) ∈ bgw := mt_1 47 rfl (by decide +kernel)
theorem mb_48 : (.code (⟨"PermitRules$Words", "<init>", "()V"⟩ : MethodName) prog_8_method_1_code 1 none : Cond) ∈ bgw := mt_1 48 rfl (by decide +kernel)
theorem mb_49 : (.methodLink "PermitRules$Words" 3 (⟨"java/lang/Object", "<init>", "()V"⟩ : MethodName) : Cond) ∈ bgw := mt_1 49 rfl (by decide +kernel)
theorem mb_50 : (.fieldLink "PermitRules$Words" 9 "PermitRules$Words" "kinds" "[I" : Cond) ∈ bgw := mt_1 50 rfl (by decide +kernel)
theorem mb_51 : (.fieldLink "PermitRules$Words" 15 "PermitRules$Words" "places" "[I" : Cond) ∈ bgw := mt_1 51 rfl (by decide +kernel)
theorem mb_52 : (.fieldLink "PermitRules$Words" 18 "PermitRules$Words" "worths" "[J" : Cond) ∈ bgw := mt_1 52 rfl (by decide +kernel)
theorem mb_53 : (.fieldLink "PermitRules$Words" 22 "PermitRules$Words" "current" "I" : Cond) ∈ bgw := mt_1 53 rfl (by decide +kernel)
theorem mb_54 : (.laysFinal "PermitRules$Words" "PermitRules$Words" "kinds" "[I" : Cond) ∈ bgw := mt_1 54 rfl (by decide +kernel)
theorem mb_56 : (.laysFinal "PermitRules$Words" "PermitRules$Words" "places" "[I" : Cond) ∈ bgw := mt_1 56 rfl (by decide +kernel)
theorem mb_58 : (.laysFinal "PermitRules$Words" "PermitRules$Words" "worths" "[J" : Cond) ∈ bgw := mt_1 58 rfl (by decide +kernel)
theorem mb_60 : (.lays "PermitRules$Words" "PermitRules$Words" "current" "I" : Cond) ∈ bgw := mt_1 60 rfl (by decide +kernel)
set_option maxRecDepth 20000 in
theorem mb_63 : (.arrayClass .int : Cond) ∈ bgw := mt_1 63 rfl (by decide +kernel)
set_option maxRecDepth 20000 in
theorem mb_64 : (.arrayClass .long : Cond) ∈ bgw := mt_1 64 rfl (by decide +kernel)
set_option maxRecDepth 20000 in
theorem mb_65 : (.fieldLink "PermitRules$Reader" 12 "PermitRules$Reader" "words" "LPermitRules$Words;" : Cond) ∈ bgw := mt_1 65 rfl (by decide +kernel)
set_option maxRecDepth 20000 in
theorem mb_66 : (.laysFinal "PermitRules$Reader" "PermitRules$Reader" "words" "LPermitRules$Words;" : Cond) ∈ bgw := mt_1 66 rfl (by decide +kernel)
set_option maxRecDepth 20000 in
theorem mb_69 : (.classLink "PermitRules" 23 "PermitRules$Facts" : Cond) ∈ bgw := mt_1 69 rfl (by decide +kernel)
set_option maxRecDepth 20000 in
theorem mb_70 : (.instantiable "PermitRules$Facts" 3 : Cond) ∈ bgw := mt_1 70 rfl (by decide +kernel)
set_option maxRecDepth 20000 in
theorem mb_72 : (.instanceMethod (⟨"PermitRules$Facts", "<init>", "()V"⟩ : MethodName) : Cond) ∈ bgw := mt_1 72 rfl (by decide +kernel)
set_option maxRecDepth 20000 in
theorem mb_73 : (.code (⟨"PermitRules$Facts", "<init>", "()V"⟩ : MethodName) prog_3_method_1_code 1 none : Cond) ∈ bgw := mt_1 73 rfl (by decide +kernel)
set_option maxRecDepth 20000 in
theorem mb_74 : (.methodLink "PermitRules$Facts" 3 (⟨"java/lang/Object", "<init>", "()V"⟩ : MethodName) : Cond) ∈ bgw := mt_1 74 rfl (by decide +kernel)
set_option maxRecDepth 20000 in
theorem mb_75 : (.fieldLink "PermitRules$Facts" 9 "PermitRules$Facts" "names" "[J" : Cond) ∈ bgw := mt_1 75 rfl (by decide +kernel)
set_option maxRecDepth 20000 in
theorem mb_76 : (.fieldLink "PermitRules$Facts" 15 "PermitRules$Facts" "values" "[I" : Cond) ∈ bgw := mt_1 76 rfl (by decide +kernel)
set_option maxRecDepth 20000 in
theorem mb_77 : (.fieldLink "PermitRules$Facts" 19 "PermitRules$Facts" "size" "I" : Cond) ∈ bgw := mt_1 77 rfl (by decide +kernel)
set_option maxRecDepth 20000 in
theorem mb_79 : (.laysFinal "PermitRules$Facts" "PermitRules$Facts" "names" "[J" : Cond) ∈ bgw := mt_1 79 rfl (by decide +kernel)
set_option maxRecDepth 20000 in
theorem mb_81 : (.laysFinal "PermitRules$Facts" "PermitRules$Facts" "values" "[I" : Cond) ∈ bgw := mt_1 81 rfl (by decide +kernel)
set_option maxRecDepth 20000 in
theorem mb_83 : (.lays "PermitRules$Facts" "PermitRules$Facts" "size" "I" : Cond) ∈ bgw := mt_1 83 rfl (by decide +kernel)
set_option maxRecDepth 20000 in
theorem mb_86 : (.classLink "PermitRules" 30 "PermitRules$Judge" : Cond) ∈ bgw := mt_1 86 rfl (by decide +kernel)
set_option maxRecDepth 20000 in
theorem mb_87 : (.instantiable "PermitRules$Judge" 6 : Cond) ∈ bgw := mt_1 87 rfl (by decide +kernel)
set_option maxRecDepth 20000 in
theorem mb_89 : (.instanceMethod (⟨"PermitRules$Judge", "<init>", "()V"⟩ : MethodName) : Cond) ∈ bgw := mt_1 89 rfl (by decide +kernel)
set_option maxRecDepth 20000 in
theorem mb_90 : (.code (⟨"PermitRules$Judge", "<init>", "()V"⟩ : MethodName) prog_4_method_1_code 1 none : Cond) ∈ bgw := mt_1 90 rfl (by decide +kernel)
set_option maxRecDepth 20000 in
theorem mb_91 : (.methodLink "PermitRules$Judge" 3 (⟨"java/lang/Object", "<init>", "()V"⟩ : MethodName) : Cond) ∈ bgw := mt_1 91 rfl (by decide +kernel)
set_option maxRecDepth 20000 in
theorem mb_92 : (.classLink "PermitRules$Judge" 9 "PermitRules$Reckoner" : Cond) ∈ bgw := mt_1 92 rfl (by decide +kernel)
set_option maxRecDepth 20000 in
theorem mb_93 : (.instantiable "PermitRules$Reckoner" 5 : Cond) ∈ bgw := mt_1 93 rfl (by decide +kernel)
set_option maxRecDepth 20000 in
theorem mb_95 : (.instanceMethod (⟨"PermitRules$Reckoner", "<init>", "()V"⟩ : MethodName) : Cond) ∈ bgw := mt_1 95 rfl (by decide +kernel)
set_option maxRecDepth 20000 in
theorem mb_96 : (.code (⟨"PermitRules$Reckoner", "<init>", "()V"⟩ : MethodName) prog_6_method_1_code 1 none : Cond) ∈ bgw := mt_1 96 rfl (by decide +kernel)
set_option maxRecDepth 20000 in
theorem mb_97 : (.methodLink "PermitRules$Reckoner" 3 (⟨"java/lang/Object", "<init>", "()V"⟩ : MethodName) : Cond) ∈ bgw := mt_1 97 rfl (by decide +kernel)
set_option maxRecDepth 20000 in
theorem mb_98 : (.fieldLink "PermitRules$Reckoner" 9 "PermitRules$Reckoner" "uppers" "[J" : Cond) ∈ bgw := mt_1 98 rfl (by decide +kernel)
set_option maxRecDepth 20000 in
theorem mb_99 : (.fieldLink "PermitRules$Reckoner" 15 "PermitRules$Reckoner" "lowers" "[J" : Cond) ∈ bgw := mt_1 99 rfl (by decide +kernel)
set_option maxRecDepth 20000 in
theorem mb_100 : (.fieldLink "PermitRules$Reckoner" 18 "PermitRules$Reckoner" "pending" "I" : Cond) ∈ bgw := mt_1 100 rfl (by decide +kernel)
set_option maxRecDepth 20000 in
theorem mb_101 : (.fieldLink "PermitRules$Reckoner" 22 "PermitRules$Reckoner" "why" "I" : Cond) ∈ bgw := mt_1 101 rfl (by decide +kernel)
set_option maxRecDepth 20000 in
theorem mb_104 : (.fieldLink "PermitRules$Reckoner" 25 "PermitRules$Reckoner" "missing" "J" : Cond) ∈ bgw := mt_1 104 rfl (by decide +kernel)
set_option maxRecDepth 20000 in
theorem mb_106 : (.laysFinal "PermitRules$Reckoner" "PermitRules$Reckoner" "uppers" "[J" : Cond) ∈ bgw := mt_1 106 rfl (by decide +kernel)
set_option maxRecDepth 20000 in
theorem mb_108 : (.laysFinal "PermitRules$Reckoner" "PermitRules$Reckoner" "lowers" "[J" : Cond) ∈ bgw := mt_1 108 rfl (by decide +kernel)
set_option maxRecDepth 20000 in
theorem mb_110 : (.lays "PermitRules$Reckoner" "PermitRules$Reckoner" "pending" "I" : Cond) ∈ bgw := mt_1 110 rfl (by decide +kernel)
set_option maxRecDepth 20000 in
theorem mb_112 : (.lays "PermitRules$Reckoner" "PermitRules$Reckoner" "why" "I" : Cond) ∈ bgw := mt_1 112 rfl (by decide +kernel)
set_option maxRecDepth 20000 in
theorem mb_114 : (.lays "PermitRules$Reckoner" "PermitRules$Reckoner" "missing" "J" : Cond) ∈ bgw := mt_1 114 rfl (by decide +kernel)
set_option maxRecDepth 20000 in
theorem mb_117 : (.fieldLink "PermitRules$Judge" 12 "PermitRules$Judge" "reckoner" "LPermitRules$Reckoner;" : Cond) ∈ bgw := mt_1 117 rfl (by decide +kernel)
set_option maxRecDepth 20000 in
theorem mb_119 : (.fieldLink "PermitRules$Judge" 18 "PermitRules$Judge" "state" "I" : Cond) ∈ bgw := mt_1 119 rfl (by decide +kernel)
set_option maxRecDepth 20000 in
theorem mb_121 : (.fieldLink "PermitRules$Judge" 22 "PermitRules$Judge" "leftUpper" "J" : Cond) ∈ bgw := mt_1 121 rfl (by decide +kernel)
set_option maxRecDepth 20000 in
theorem mb_123 : (.fieldLink "PermitRules$Judge" 26 "PermitRules$Judge" "leftLower" "J" : Cond) ∈ bgw := mt_1 123 rfl (by decide +kernel)
set_option maxRecDepth 20000 in
theorem mb_125 : (.fieldLink "PermitRules$Judge" 29 "PermitRules$Judge" "rightUpper" "J" : Cond) ∈ bgw := mt_1 125 rfl (by decide +kernel)
set_option maxRecDepth 20000 in
theorem mb_127 : (.fieldLink "PermitRules$Judge" 32 "PermitRules$Judge" "rightLower" "J" : Cond) ∈ bgw := mt_1 127 rfl (by decide +kernel)
set_option maxRecDepth 20000 in
theorem mb_129 : (.laysFinal "PermitRules$Judge" "PermitRules$Judge" "reckoner" "LPermitRules$Reckoner;" : Cond) ∈ bgw := mt_1 129 rfl (by decide +kernel)
set_option maxRecDepth 20000 in
theorem mb_131 : (.lays "PermitRules$Judge" "PermitRules$Judge" "state" "I" : Cond) ∈ bgw := mt_1 131 rfl (by decide +kernel)
set_option maxRecDepth 20000 in
theorem mb_133 : (.lays "PermitRules$Judge" "PermitRules$Judge" "leftUpper" "J" : Cond) ∈ bgw := mt_1 133 rfl (by decide +kernel)
set_option maxRecDepth 20000 in
theorem mb_135 : (.lays "PermitRules$Judge" "PermitRules$Judge" "leftLower" "J" : Cond) ∈ bgw := mt_1 135 rfl (by decide +kernel)
set_option maxRecDepth 20000 in
theorem mb_137 : (.lays "PermitRules$Judge" "PermitRules$Judge" "rightUpper" "J" : Cond) ∈ bgw := mt_1 137 rfl (by decide +kernel)
set_option maxRecDepth 20000 in
theorem mb_139 : (.lays "PermitRules$Judge" "PermitRules$Judge" "rightLower" "J" : Cond) ∈ bgw := mt_1 139 rfl (by decide +kernel)
set_option maxRecDepth 20000 in
theorem mb_142 : (.classLink "PermitRules" 41 "PermitRules$Book" : Cond) ∈ bgw := mt_1 142 rfl (by decide +kernel)
set_option maxRecDepth 20000 in
theorem mb_143 : (.instantiable "PermitRules$Book" 11 : Cond) ∈ bgw := mt_1 143 rfl (by decide +kernel)
set_option maxRecDepth 20000 in
theorem mb_145 : (.instanceMethod (⟨"PermitRules$Book", "<init>", "()V"⟩ : MethodName) : Cond) ∈ bgw := mt_1 145 rfl (by decide +kernel)
set_option maxRecDepth 20000 in
theorem mb_146 : (.code (⟨"PermitRules$Book", "<init>", "()V"⟩ : MethodName) prog_2_method_1_code 1 none : Cond) ∈ bgw := mt_1 146 rfl (by decide +kernel)
set_option maxRecDepth 20000 in
theorem mb_147 : (.methodLink "PermitRules$Book" 3 (⟨"java/lang/Object", "<init>", "()V"⟩ : MethodName) : Cond) ∈ bgw := mt_1 147 rfl (by decide +kernel)
set_option maxRecDepth 20000 in
theorem mb_148 : (.fieldLink "PermitRules$Book" 9 "PermitRules$Book" "names" "[J" : Cond) ∈ bgw := mt_1 148 rfl (by decide +kernel)
set_option maxRecDepth 20000 in
theorem mb_149 : (.fieldLink "PermitRules$Book" 15 "PermitRules$Book" "days" "[J" : Cond) ∈ bgw := mt_1 149 rfl (by decide +kernel)
set_option maxRecDepth 20000 in
theorem mb_150 : (.fieldLink "PermitRules$Book" 18 "PermitRules$Book" "clausesBehind" "[I" : Cond) ∈ bgw := mt_1 150 rfl (by decide +kernel)
set_option maxRecDepth 20000 in
theorem mb_151 : (.fieldLink "PermitRules$Book" 22 "PermitRules$Book" "ruleCount" "I" : Cond) ∈ bgw := mt_1 151 rfl (by decide +kernel)
set_option maxRecDepth 20000 in
theorem mb_153 : (.fieldLink "PermitRules$Book" 26 "PermitRules$Book" "signs" "[I" : Cond) ∈ bgw := mt_1 153 rfl (by decide +kernel)
set_option maxRecDepth 20000 in
theorem mb_154 : (.fieldLink "PermitRules$Book" 29 "PermitRules$Book" "stepsBehindLeft" "[I" : Cond) ∈ bgw := mt_1 154 rfl (by decide +kernel)
set_option maxRecDepth 20000 in
theorem mb_155 : (.fieldLink "PermitRules$Book" 32 "PermitRules$Book" "stepsBehindRight" "[I" : Cond) ∈ bgw := mt_1 155 rfl (by decide +kernel)
set_option maxRecDepth 20000 in
theorem mb_156 : (.fieldLink "PermitRules$Book" 35 "PermitRules$Book" "clauseCount" "I" : Cond) ∈ bgw := mt_1 156 rfl (by decide +kernel)
set_option maxRecDepth 20000 in
theorem mb_158 : (.fieldLink "PermitRules$Book" 38 "PermitRules$Book" "kinds" "[I" : Cond) ∈ bgw := mt_1 158 rfl (by decide +kernel)
set_option maxRecDepth 20000 in
theorem mb_159 : (.fieldLink "PermitRules$Book" 41 "PermitRules$Book" "worths" "[J" : Cond) ∈ bgw := mt_1 159 rfl (by decide +kernel)
set_option maxRecDepth 20000 in
theorem mb_160 : (.fieldLink "PermitRules$Book" 44 "PermitRules$Book" "stepCount" "I" : Cond) ∈ bgw := mt_1 160 rfl (by decide +kernel)
set_option maxRecDepth 20000 in
theorem mb_162 : (.laysFinal "PermitRules$Book" "PermitRules$Book" "names" "[J" : Cond) ∈ bgw := mt_1 162 rfl (by decide +kernel)
set_option maxRecDepth 20000 in
theorem mb_164 : (.laysFinal "PermitRules$Book" "PermitRules$Book" "days" "[J" : Cond) ∈ bgw := mt_1 164 rfl (by decide +kernel)
set_option maxRecDepth 20000 in
theorem mb_166 : (.laysFinal "PermitRules$Book" "PermitRules$Book" "clausesBehind" "[I" : Cond) ∈ bgw := mt_1 166 rfl (by decide +kernel)
set_option maxRecDepth 20000 in
theorem mb_168 : (.lays "PermitRules$Book" "PermitRules$Book" "ruleCount" "I" : Cond) ∈ bgw := mt_1 168 rfl (by decide +kernel)
set_option maxRecDepth 20000 in
theorem mb_170 : (.laysFinal "PermitRules$Book" "PermitRules$Book" "signs" "[I" : Cond) ∈ bgw := mt_1 170 rfl (by decide +kernel)
set_option maxRecDepth 20000 in
theorem mb_172 : (.laysFinal "PermitRules$Book" "PermitRules$Book" "stepsBehindLeft" "[I" : Cond) ∈ bgw := mt_1 172 rfl (by decide +kernel)
set_option maxRecDepth 20000 in
theorem mb_174 : (.laysFinal "PermitRules$Book" "PermitRules$Book" "stepsBehindRight" "[I" : Cond) ∈ bgw := mt_1 174 rfl (by decide +kernel)
set_option maxRecDepth 20000 in
theorem mb_176 : (.lays "PermitRules$Book" "PermitRules$Book" "clauseCount" "I" : Cond) ∈ bgw := mt_1 176 rfl (by decide +kernel)
set_option maxRecDepth 20000 in
theorem mb_178 : (.laysFinal "PermitRules$Book" "PermitRules$Book" "kinds" "[I" : Cond) ∈ bgw := mt_1 178 rfl (by decide +kernel)
set_option maxRecDepth 20000 in
theorem mb_180 : (.laysFinal "PermitRules$Book" "PermitRules$Book" "worths" "[J" : Cond) ∈ bgw := mt_1 180 rfl (by decide +kernel)
set_option maxRecDepth 20000 in
theorem mb_182 : (.lays "PermitRules$Book" "PermitRules$Book" "stepCount" "I" : Cond) ∈ bgw := mt_1 182 rfl (by decide +kernel)
set_option maxRecDepth 20000 in
theorem mb_185 : (.fieldLink "PermitRules" 12 "PermitRules" "text" "LPermitRules$Text;" : Cond) ∈ bgw := mt_1 185 rfl (by decide +kernel)
set_option maxRecDepth 20000 in
theorem mb_186 : (.fieldLink "PermitRules" 19 "PermitRules" "reader" "LPermitRules$Reader;" : Cond) ∈ bgw := mt_1 186 rfl (by decide +kernel)
set_option maxRecDepth 20000 in
theorem mb_187 : (.fieldLink "PermitRules" 26 "PermitRules" "facts" "LPermitRules$Facts;" : Cond) ∈ bgw := mt_1 187 rfl (by decide +kernel)
set_option maxRecDepth 20000 in
theorem mb_188 : (.fieldLink "PermitRules" 33 "PermitRules" "judge" "LPermitRules$Judge;" : Cond) ∈ bgw := mt_1 188 rfl (by decide +kernel)
set_option maxRecDepth 20000 in
theorem mb_189 : (.fieldLink "PermitRules" 37 "PermitRules" "answers" "[J" : Cond) ∈ bgw := mt_1 189 rfl (by decide +kernel)
set_option maxRecDepth 20000 in
theorem mb_190 : (.fieldLink "PermitRules" 44 "PermitRules" "book" "LPermitRules$Book;" : Cond) ∈ bgw := mt_1 190 rfl (by decide +kernel)
set_option maxRecDepth 20000 in
theorem mb_191 : (.fieldLink "PermitRules" 48 "PermitRules" "spare" "LPermitRules$Book;" : Cond) ∈ bgw := mt_1 191 rfl (by decide +kernel)
set_option maxRecDepth 20000 in
theorem mb_192 : (.fieldLink "PermitRules" 51 "PermitRules" "asked" "Z" : Cond) ∈ bgw := mt_1 192 rfl (by decide +kernel)
set_option maxRecDepth 20000 in
theorem mb_193 : (.fieldLink "PermitRules" 55 "PermitRules" "askedDay" "I" : Cond) ∈ bgw := mt_1 193 rfl (by decide +kernel)
set_option maxRecDepth 20000 in
theorem mb_194 : (.laysFinal "PermitRules" "PermitRules" "text" "LPermitRules$Text;" : Cond) ∈ bgw := mt_1 194 rfl (by decide +kernel)
set_option maxRecDepth 20000 in
theorem mb_196 : (.laysFinal "PermitRules" "PermitRules" "reader" "LPermitRules$Reader;" : Cond) ∈ bgw := mt_1 196 rfl (by decide +kernel)
set_option maxRecDepth 20000 in
theorem mb_198 : (.laysFinal "PermitRules" "PermitRules" "facts" "LPermitRules$Facts;" : Cond) ∈ bgw := mt_1 198 rfl (by decide +kernel)
set_option maxRecDepth 20000 in
theorem mb_200 : (.laysFinal "PermitRules" "PermitRules" "judge" "LPermitRules$Judge;" : Cond) ∈ bgw := mt_1 200 rfl (by decide +kernel)
set_option maxRecDepth 20000 in
theorem mb_202 : (.laysFinal "PermitRules" "PermitRules" "answers" "[J" : Cond) ∈ bgw := mt_1 202 rfl (by decide +kernel)
set_option maxRecDepth 20000 in
theorem mb_204 : (.lays "PermitRules" "PermitRules" "book" "LPermitRules$Book;" : Cond) ∈ bgw := mt_1 204 rfl (by decide +kernel)
set_option maxRecDepth 20000 in
theorem mb_206 : (.lays "PermitRules" "PermitRules" "spare" "LPermitRules$Book;" : Cond) ∈ bgw := mt_1 206 rfl (by decide +kernel)
set_option maxRecDepth 20000 in
theorem mb_208 : (.lays "PermitRules" "PermitRules" "asked" "Z" : Cond) ∈ bgw := mt_1 208 rfl (by decide +kernel)
set_option maxRecDepth 20000 in
theorem mb_210 : (.lays "PermitRules" "PermitRules" "askedDay" "I" : Cond) ∈ bgw := mt_1 210 rfl (by decide +kernel)
set_option maxRecDepth 20000 in
theorem mb_213 : (.methodLink "PermitRulesLaw" 69 (⟨"PermitRules", "read", "()I"⟩ : MethodName) : Cond) ∈ bgw := mt_1 213 rfl (by decide +kernel)
set_option maxRecDepth 20000 in
theorem mb_214 : (.instanceMethod (⟨"PermitRules", "read", "()I"⟩ : MethodName) : Cond) ∈ bgw := mt_1 214 rfl (by decide +kernel)
set_option maxRecDepth 20000 in
theorem mb_215 : (.selects "PermitRules" (⟨"PermitRules", "read", "()I"⟩ : MethodName) (⟨"PermitRules", "read", "()I"⟩ : MethodName) : Cond) ∈ bgw := mt_1 215 rfl (by decide +kernel)
set_option maxRecDepth 20000 in
theorem mb_216 : (.code (⟨"PermitRules", "read", "()I"⟩ : MethodName) prog_1_method_4_code 2 (some .int) : Cond) ∈ bgw := mt_1 216 rfl (by decide +kernel)
set_option maxRecDepth 20000 in
theorem mb_217 : (.methodLink "PermitRules" 88 (⟨"PermitRules$Reader", "takes", "(LPermitRules$Text;LPermitRules$Book;)Z"⟩ : MethodName) : Cond) ∈ bgw := mt_1 217 rfl (by decide +kernel)
set_option maxRecDepth 20000 in
theorem mb_218 : (.instanceMethod (⟨"PermitRules$Reader", "takes", "(LPermitRules$Text;LPermitRules$Book;)Z"⟩ : MethodName) : Cond) ∈ bgw := mt_1 218 rfl (by decide +kernel)
set_option maxRecDepth 20000 in
theorem mb_219 : (.selects "PermitRules$Reader" (⟨"PermitRules$Reader", "takes", "(LPermitRules$Text;LPermitRules$Book;)Z"⟩ : MethodName) (⟨"PermitRules$Reader", "takes", "(LPermitRules$Text;LPermitRules$Book;)Z"⟩ : MethodName) : Cond) ∈ bgw := mt_1 219 rfl (by decide +kernel)
set_option maxRecDepth 20000 in
theorem mb_220 : (.code (⟨"PermitRules$Reader", "takes", "(LPermitRules$Text;LPermitRules$Book;)Z"⟩ : MethodName) prog_5_method_2_code 4 (some .boolean) : Cond) ∈ bgw := mt_1 220 rfl (by decide +kernel)
set_option maxRecDepth 20000 in
theorem mb_221 : (.methodLink "PermitRules$Reader" 18 (⟨"PermitRules$Words", "split", "(LPermitRules$Text;)V"⟩ : MethodName) : Cond) ∈ bgw := mt_1 221 rfl (by decide +kernel)
set_option maxRecDepth 20000 in
theorem mb_222 : (.instanceMethod (⟨"PermitRules$Words", "split", "(LPermitRules$Text;)V"⟩ : MethodName) : Cond) ∈ bgw := mt_1 222 rfl (by decide +kernel)
set_option maxRecDepth 20000 in
theorem mb_223 : (.selects "PermitRules$Words" (⟨"PermitRules$Words", "split", "(LPermitRules$Text;)V"⟩ : MethodName) (⟨"PermitRules$Words", "split", "(LPermitRules$Text;)V"⟩ : MethodName) : Cond) ∈ bgw := mt_1 223 rfl (by decide +kernel)
set_option maxRecDepth 20000 in
theorem mb_224 : (.code (⟨"PermitRules$Words", "split", "(LPermitRules$Text;)V"⟩ : MethodName) prog_8_method_2_code 6 none : Cond) ∈ bgw := mt_1 224 rfl (by decide +kernel)
set_option maxRecDepth 20000 in
theorem mb_225 : (.methodLink "PermitRules$Words" 26 (⟨"PermitRules$Words", "behindBlanks", "(LPermitRules$Text;I)I"⟩ : MethodName) : Cond) ∈ bgw := mt_1 225 rfl (by decide +kernel)
set_option maxRecDepth 20000 in
theorem mb_226 : (.static (⟨"PermitRules$Words", "behindBlanks", "(LPermitRules$Text;I)I"⟩ : MethodName) : Cond) ∈ bgw := mt_1 226 rfl (by decide +kernel)
set_option maxRecDepth 20000 in
theorem mb_227 : (.code (⟨"PermitRules$Words", "behindBlanks", "(LPermitRules$Text;I)I"⟩ : MethodName) prog_8_method_8_code 3 (some .int) : Cond) ∈ bgw := mt_1 227 rfl (by decide +kernel)
set_option maxRecDepth 20000 in
theorem mb_228 : (.methodLink "PermitRules$Words" 41 (⟨"PermitRules$Text", "at", "(I)I"⟩ : MethodName) : Cond) ∈ bgw := mt_1 228 rfl (by decide +kernel)
set_option maxRecDepth 20000 in
theorem mb_229 : (.instanceMethod (⟨"PermitRules$Text", "at", "(I)I"⟩ : MethodName) : Cond) ∈ bgw := mt_1 229 rfl (by decide +kernel)
set_option maxRecDepth 20000 in
theorem mb_230 : (.selects "PermitRules$Text" (⟨"PermitRules$Text", "at", "(I)I"⟩ : MethodName) (⟨"PermitRules$Text", "at", "(I)I"⟩ : MethodName) : Cond) ∈ bgw := mt_1 230 rfl (by decide +kernel)
set_option maxRecDepth 20000 in
theorem mb_231 : (.code (⟨"PermitRules$Text", "at", "(I)I"⟩ : MethodName) prog_7_method_2_code 2 (some .int) : Cond) ∈ bgw := mt_1 231 rfl (by decide +kernel)
set_option maxRecDepth 20000 in
theorem mb_232 : (.methodLink "PermitRules$Words" 30 (⟨"PermitRules$Words", "behindWord", "(LPermitRules$Text;I)I"⟩ : MethodName) : Cond) ∈ bgw := mt_1 232 rfl (by decide +kernel)
set_option maxRecDepth 20000 in
theorem mb_233 : (.static (⟨"PermitRules$Words", "behindWord", "(LPermitRules$Text;I)I"⟩ : MethodName) : Cond) ∈ bgw := mt_1 233 rfl (by decide +kernel)
set_option maxRecDepth 20000 in
theorem mb_234 : (.code (⟨"PermitRules$Words", "behindWord", "(LPermitRules$Text;I)I"⟩ : MethodName) prog_8_method_9_code 4 (some .int) : Cond) ∈ bgw := mt_1 234 rfl (by decide +kernel)
set_option maxRecDepth 20000 in
theorem mb_236 : (.static (⟨"PermitRules", "isDigit", "(I)Z"⟩ : MethodName) : Cond) ∈ bgw := mt_1 236 rfl (by decide +kernel)
set_option maxRecDepth 20000 in
theorem mb_237 : (.code (⟨"PermitRules", "isDigit", "(I)Z"⟩ : MethodName) prog_1_method_22_code 1 (some .boolean) : Cond) ∈ bgw := mt_1 237 rfl (by decide +kernel)
set_option maxRecDepth 20000 in
theorem mb_239 : (.static (⟨"PermitRules", "isLetter", "(I)Z"⟩ : MethodName) : Cond) ∈ bgw := mt_1 239 rfl (by decide +kernel)
theorem mb_240 : (.code (⟨"PermitRules", "isLetter", "(I)Z"⟩ : MethodName) prog_1_method_21_code 1 (some .boolean) : Cond) ∈ bgw := mt_2 0 rfl (by decide +kernel)
theorem mb_241 : (.methodLink "PermitRules$Words" 33 (⟨"PermitRules$Words", "kindOf", "(LPermitRules$Text;II)I"⟩ : MethodName) : Cond) ∈ bgw := mt_2 1 rfl (by decide +kernel)
theorem mb_242 : (.static (⟨"PermitRules$Words", "kindOf", "(LPermitRules$Text;II)I"⟩ : MethodName) : Cond) ∈ bgw := mt_2 2 rfl (by decide +kernel)
theorem mb_243 : (.code (⟨"PermitRules$Words", "kindOf", "(LPermitRules$Text;II)I"⟩ : MethodName) prog_8_method_10_code 4 (some .int) : Cond) ∈ bgw := mt_2 3 rfl (by decide +kernel)
theorem mb_244 : (.methodLink "PermitRules$Words" 37 (⟨"PermitRules$Words", "worthOf", "(LPermitRules$Text;III)J"⟩ : MethodName) : Cond) ∈ bgw := mt_2 4 rfl (by decide +kernel)
theorem mb_245 : (.static (⟨"PermitRules$Words", "worthOf", "(LPermitRules$Text;III)J"⟩ : MethodName) : Cond) ∈ bgw := mt_2 5 rfl (by decide +kernel)
theorem mb_246 : (.code (⟨"PermitRules$Words", "worthOf", "(LPermitRules$Text;III)J"⟩ : MethodName) prog_8_method_11_code 7 (some .long) : Cond) ∈ bgw := mt_2 6 rfl (by decide +kernel)
theorem mb_247 : (.constantLong "PermitRules$Words" 54 10 : Cond) ∈ bgw := mt_2 7 rfl (by decide +kernel)
theorem mb_248 : (.methodLink "PermitRules$Reader" 22 (⟨"PermitRules$Book", "empty", "()V"⟩ : MethodName) : Cond) ∈ bgw := mt_2 8 rfl (by decide +kernel)
theorem mb_249 : (.instanceMethod (⟨"PermitRules$Book", "empty", "()V"⟩ : MethodName) : Cond) ∈ bgw := mt_2 9 rfl (by decide +kernel)
theorem mb_250 : (.selects "PermitRules$Book" (⟨"PermitRules$Book", "empty", "()V"⟩ : MethodName) (⟨"PermitRules$Book", "empty", "()V"⟩ : MethodName) : Cond) ∈ bgw := mt_2 10 rfl (by decide +kernel)
theorem mb_251 : (.code (⟨"PermitRules$Book", "empty", "()V"⟩ : MethodName) prog_2_method_2_code 1 none : Cond) ∈ bgw := mt_2 11 rfl (by decide +kernel)
theorem mb_252 : (.methodLink "PermitRules$Reader" 27 (⟨"PermitRules$Reader", "takesRule", "(LPermitRules$Book;)Z"⟩ : MethodName) : Cond) ∈ bgw := mt_2 12 rfl (by decide +kernel)
theorem mb_254 : (.instanceMethod (⟨"PermitRules$Reader", "takesRule", "(LPermitRules$Book;)Z"⟩ : MethodName) : Cond) ∈ bgw := mt_2 14 rfl (by decide +kernel)
theorem mb_255 : (.code (⟨"PermitRules$Reader", "takesRule", "(LPermitRules$Book;)Z"⟩ : MethodName) prog_5_method_4_code 6 (some .boolean) : Cond) ∈ bgw := mt_2 15 rfl (by decide +kernel)
theorem mb_256 : (.methodLink "PermitRules$Reader" 42 (⟨"PermitRules$Words", "worth", "()J"⟩ : MethodName) : Cond) ∈ bgw := mt_2 16 rfl (by decide +kernel)
theorem mb_257 : (.instanceMethod (⟨"PermitRules$Words", "worth", "()J"⟩ : MethodName) : Cond) ∈ bgw := mt_2 17 rfl (by decide +kernel)
theorem mb_258 : (.selects "PermitRules$Words" (⟨"PermitRules$Words", "worth", "()J"⟩ : MethodName) (⟨"PermitRules$Words", "worth", "()J"⟩ : MethodName) : Cond) ∈ bgw := mt_2 18 rfl (by decide +kernel)
theorem mb_259 : (.code (⟨"PermitRules$Words", "worth", "()J"⟩ : MethodName) prog_8_method_5_code 1 (some .long) : Cond) ∈ bgw := mt_2 19 rfl (by decide +kernel)
theorem mb_260 : (.methodLink "PermitRules$Reader" 31 (⟨"PermitRules$Words", "kind", "()I"⟩ : MethodName) : Cond) ∈ bgw := mt_2 20 rfl (by decide +kernel)
theorem mb_261 : (.instanceMethod (⟨"PermitRules$Words", "kind", "()I"⟩ : MethodName) : Cond) ∈ bgw := mt_2 21 rfl (by decide +kernel)
theorem mb_262 : (.selects "PermitRules$Words" (⟨"PermitRules$Words", "kind", "()I"⟩ : MethodName) (⟨"PermitRules$Words", "kind", "()I"⟩ : MethodName) : Cond) ∈ bgw := mt_2 22 rfl (by decide +kernel)
theorem mb_263 : (.code (⟨"PermitRules$Words", "kind", "()I"⟩ : MethodName) prog_8_method_3_code 1 (some .int) : Cond) ∈ bgw := mt_2 23 rfl (by decide +kernel)
theorem mb_264 : (.methodLink "PermitRules$Reader" 46 (⟨"PermitRules$Book", "hasRoomFor", "(J)Z"⟩ : MethodName) : Cond) ∈ bgw := mt_2 24 rfl (by decide +kernel)
theorem mb_265 : (.instanceMethod (⟨"PermitRules$Book", "hasRoomFor", "(J)Z"⟩ : MethodName) : Cond) ∈ bgw := mt_2 25 rfl (by decide +kernel)
theorem mb_266 : (.selects "PermitRules$Book" (⟨"PermitRules$Book", "hasRoomFor", "(J)Z"⟩ : MethodName) (⟨"PermitRules$Book", "hasRoomFor", "(J)Z"⟩ : MethodName) : Cond) ∈ bgw := mt_2 26 rfl (by decide +kernel)
theorem mb_267 : (.code (⟨"PermitRules$Book", "hasRoomFor", "(J)Z"⟩ : MethodName) prog_2_method_4_code 3 (some .boolean) : Cond) ∈ bgw := mt_2 27 rfl (by decide +kernel)
theorem mb_268 : (.methodLink "PermitRules$Book" 47 (⟨"PermitRules$Book", "find", "(J)I"⟩ : MethodName) : Cond) ∈ bgw := mt_2 28 rfl (by decide +kernel)
theorem mb_269 : (.instanceMethod (⟨"PermitRules$Book", "find", "(J)I"⟩ : MethodName) : Cond) ∈ bgw := mt_2 29 rfl (by decide +kernel)
theorem mb_270 : (.selects "PermitRules$Book" (⟨"PermitRules$Book", "find", "(J)I"⟩ : MethodName) (⟨"PermitRules$Book", "find", "(J)I"⟩ : MethodName) : Cond) ∈ bgw := mt_2 30 rfl (by decide +kernel)
theorem mb_271 : (.code (⟨"PermitRules$Book", "find", "(J)I"⟩ : MethodName) prog_2_method_3_code 4 (some .int) : Cond) ∈ bgw := mt_2 31 rfl (by decide +kernel)
theorem mb_272 : (.methodLink "PermitRules$Reader" 50 (⟨"PermitRules$Words", "advance", "()V"⟩ : MethodName) : Cond) ∈ bgw := mt_2 32 rfl (by decide +kernel)
theorem mb_273 : (.instanceMethod (⟨"PermitRules$Words", "advance", "()V"⟩ : MethodName) : Cond) ∈ bgw := mt_2 33 rfl (by decide +kernel)
theorem mb_274 : (.selects "PermitRules$Words" (⟨"PermitRules$Words", "advance", "()V"⟩ : MethodName) (⟨"PermitRules$Words", "advance", "()V"⟩ : MethodName) : Cond) ∈ bgw := mt_2 34 rfl (by decide +kernel)
theorem mb_275 : (.code (⟨"PermitRules$Words", "advance", "()V"⟩ : MethodName) prog_8_method_6_code 1 none : Cond) ∈ bgw := mt_2 35 rfl (by decide +kernel)
theorem mb_276 : (.methodLink "PermitRules$Reader" 35 (⟨"PermitRules$Words", "pass", "(I)Z"⟩ : MethodName) : Cond) ∈ bgw := mt_2 36 rfl (by decide +kernel)
theorem mb_277 : (.instanceMethod (⟨"PermitRules$Words", "pass", "(I)Z"⟩ : MethodName) : Cond) ∈ bgw := mt_2 37 rfl (by decide +kernel)
theorem mb_278 : (.selects "PermitRules$Words" (⟨"PermitRules$Words", "pass", "(I)Z"⟩ : MethodName) (⟨"PermitRules$Words", "pass", "(I)Z"⟩ : MethodName) : Cond) ∈ bgw := mt_2 38 rfl (by decide +kernel)
theorem mb_279 : (.code (⟨"PermitRules$Words", "pass", "(I)Z"⟩ : MethodName) prog_8_method_7_code 2 (some .boolean) : Cond) ∈ bgw := mt_2 39 rfl (by decide +kernel)
theorem mb_280 : (.methodLink "PermitRules$Reader" 53 (⟨"PermitRules$Reader", "takesClause", "(LPermitRules$Book;)Z"⟩ : MethodName) : Cond) ∈ bgw := mt_2 40 rfl (by decide +kernel)
theorem mb_282 : (.instanceMethod (⟨"PermitRules$Reader", "takesClause", "(LPermitRules$Book;)Z"⟩ : MethodName) : Cond) ∈ bgw := mt_2 42 rfl (by decide +kernel)
theorem mb_283 : (.code (⟨"PermitRules$Reader", "takesClause", "(LPermitRules$Book;)Z"⟩ : MethodName) prog_5_method_5_code 4 (some .boolean) : Cond) ∈ bgw := mt_2 43 rfl (by decide +kernel)
theorem mb_284 : (.methodLink "PermitRules$Reader" 60 (⟨"PermitRules$Reader", "takesSide", "(LPermitRules$Book;I)Z"⟩ : MethodName) : Cond) ∈ bgw := mt_2 44 rfl (by decide +kernel)
theorem mb_286 : (.instanceMethod (⟨"PermitRules$Reader", "takesSide", "(LPermitRules$Book;I)Z"⟩ : MethodName) : Cond) ∈ bgw := mt_2 46 rfl (by decide +kernel)
theorem mb_287 : (.code (⟨"PermitRules$Reader", "takesSide", "(LPermitRules$Book;I)Z"⟩ : MethodName) prog_5_method_6_code 6 (some .boolean) : Cond) ∈ bgw := mt_2 47 rfl (by decide +kernel)
theorem mb_288 : (.methodLink "PermitRules$Reader" 75 (⟨"PermitRules$Reader", "takesTerm", "(LPermitRules$Book;I)Z"⟩ : MethodName) : Cond) ∈ bgw := mt_2 48 rfl (by decide +kernel)
theorem mb_290 : (.instanceMethod (⟨"PermitRules$Reader", "takesTerm", "(LPermitRules$Book;I)Z"⟩ : MethodName) : Cond) ∈ bgw := mt_2 50 rfl (by decide +kernel)
theorem mb_291 : (.code (⟨"PermitRules$Reader", "takesTerm", "(LPermitRules$Book;I)Z"⟩ : MethodName) prog_5_method_7_code 5 (some .boolean) : Cond) ∈ bgw := mt_2 51 rfl (by decide +kernel)
theorem mb_292 : (.methodLink "PermitRules$Reader" 82 (⟨"PermitRules$Reader", "takesFactor", "(LPermitRules$Book;I)Z"⟩ : MethodName) : Cond) ∈ bgw := mt_2 52 rfl (by decide +kernel)
theorem mb_294 : (.instanceMethod (⟨"PermitRules$Reader", "takesFactor", "(LPermitRules$Book;I)Z"⟩ : MethodName) : Cond) ∈ bgw := mt_2 54 rfl (by decide +kernel)
theorem mb_295 : (.code (⟨"PermitRules$Reader", "takesFactor", "(LPermitRules$Book;I)Z"⟩ : MethodName) prog_5_method_8_code 4 (some .boolean) : Cond) ∈ bgw := mt_2 55 rfl (by decide +kernel)
theorem mb_296 : (.methodLink "PermitRules$Reader" 78 (⟨"PermitRules$Book", "addStep", "(IJ)V"⟩ : MethodName) : Cond) ∈ bgw := mt_2 56 rfl (by decide +kernel)
theorem mb_297 : (.instanceMethod (⟨"PermitRules$Book", "addStep", "(IJ)V"⟩ : MethodName) : Cond) ∈ bgw := mt_2 57 rfl (by decide +kernel)
theorem mb_298 : (.selects "PermitRules$Book" (⟨"PermitRules$Book", "addStep", "(IJ)V"⟩ : MethodName) (⟨"PermitRules$Book", "addStep", "(IJ)V"⟩ : MethodName) : Cond) ∈ bgw := mt_2 58 rfl (by decide +kernel)
theorem mb_299 : (.code (⟨"PermitRules$Book", "addStep", "(IJ)V"⟩ : MethodName) prog_2_method_7_code 5 none : Cond) ∈ bgw := mt_2 59 rfl (by decide +kernel)
theorem mb_300 : (.methodLink "PermitRules$Reader" 64 (⟨"PermitRules$Reader", "compares", "(I)Z"⟩ : MethodName) : Cond) ∈ bgw := mt_2 60 rfl (by decide +kernel)
set_option maxRecDepth 20000 in
theorem mb_301 : (.static (⟨"PermitRules$Reader", "compares", "(I)Z"⟩ : MethodName) : Cond) ∈ bgw := mt_2 61 rfl (by decide +kernel)
set_option maxRecDepth 20000 in
theorem mb_302 : (.code (⟨"PermitRules$Reader", "compares", "(I)Z"⟩ : MethodName) prog_5_method_9_code 1 (some .boolean) : Cond) ∈ bgw := mt_2 62 rfl (by decide +kernel)
set_option maxRecDepth 20000 in
theorem mb_303 : (.methodLink "PermitRules$Reader" 71 (⟨"PermitRules$Book", "addClause", "(II)V"⟩ : MethodName) : Cond) ∈ bgw := mt_2 63 rfl (by decide +kernel)
set_option maxRecDepth 20000 in
theorem mb_304 : (.instanceMethod (⟨"PermitRules$Book", "addClause", "(II)V"⟩ : MethodName) : Cond) ∈ bgw := mt_2 64 rfl (by decide +kernel)
set_option maxRecDepth 20000 in
theorem mb_305 : (.selects "PermitRules$Book" (⟨"PermitRules$Book", "addClause", "(II)V"⟩ : MethodName) (⟨"PermitRules$Book", "addClause", "(II)V"⟩ : MethodName) : Cond) ∈ bgw := mt_2 65 rfl (by decide +kernel)
set_option maxRecDepth 20000 in
theorem mb_306 : (.code (⟨"PermitRules$Book", "addClause", "(II)V"⟩ : MethodName) prog_2_method_6_code 4 none : Cond) ∈ bgw := mt_2 66 rfl (by decide +kernel)
set_option maxRecDepth 20000 in
theorem mb_307 : (.methodLink "PermitRules$Reader" 56 (⟨"PermitRules$Book", "addRule", "(JJ)V"⟩ : MethodName) : Cond) ∈ bgw := mt_2 67 rfl (by decide +kernel)
set_option maxRecDepth 20000 in
theorem mb_308 : (.instanceMethod (⟨"PermitRules$Book", "addRule", "(JJ)V"⟩ : MethodName) : Cond) ∈ bgw := mt_2 68 rfl (by decide +kernel)
set_option maxRecDepth 20000 in
theorem mb_309 : (.selects "PermitRules$Book" (⟨"PermitRules$Book", "addRule", "(JJ)V"⟩ : MethodName) (⟨"PermitRules$Book", "addRule", "(JJ)V"⟩ : MethodName) : Cond) ∈ bgw := mt_2 69 rfl (by decide +kernel)
set_option maxRecDepth 20000 in
theorem mb_310 : (.code (⟨"PermitRules$Book", "addRule", "(JJ)V"⟩ : MethodName) prog_2_method_5_code 6 none : Cond) ∈ bgw := mt_2 70 rfl (by decide +kernel)
set_option maxRecDepth 20000 in
theorem mb_311 : (.methodLink "PermitRules" 92 (⟨"PermitRules$Reader", "place", "()I"⟩ : MethodName) : Cond) ∈ bgw := mt_2 71 rfl (by decide +kernel)
set_option maxRecDepth 20000 in
theorem mb_312 : (.instanceMethod (⟨"PermitRules$Reader", "place", "()I"⟩ : MethodName) : Cond) ∈ bgw := mt_2 72 rfl (by decide +kernel)
set_option maxRecDepth 20000 in
theorem mb_313 : (.selects "PermitRules$Reader" (⟨"PermitRules$Reader", "place", "()I"⟩ : MethodName) (⟨"PermitRules$Reader", "place", "()I"⟩ : MethodName) : Cond) ∈ bgw := mt_2 73 rfl (by decide +kernel)
set_option maxRecDepth 20000 in
theorem mb_314 : (.code (⟨"PermitRules$Reader", "place", "()I"⟩ : MethodName) prog_5_method_3_code 1 (some .int) : Cond) ∈ bgw := mt_2 74 rfl (by decide +kernel)
set_option maxRecDepth 20000 in
theorem mb_315 : (.methodLink "PermitRules$Reader" 39 (⟨"PermitRules$Words", "place", "()I"⟩ : MethodName) : Cond) ∈ bgw := mt_2 75 rfl (by decide +kernel)
set_option maxRecDepth 20000 in
theorem mb_316 : (.instanceMethod (⟨"PermitRules$Words", "place", "()I"⟩ : MethodName) : Cond) ∈ bgw := mt_2 76 rfl (by decide +kernel)
set_option maxRecDepth 20000 in
theorem mb_317 : (.selects "PermitRules$Words" (⟨"PermitRules$Words", "place", "()I"⟩ : MethodName) (⟨"PermitRules$Words", "place", "()I"⟩ : MethodName) : Cond) ∈ bgw := mt_2 77 rfl (by decide +kernel)
set_option maxRecDepth 20000 in
theorem mb_318 : (.code (⟨"PermitRules$Words", "place", "()I"⟩ : MethodName) prog_8_method_4_code 1 (some .int) : Cond) ∈ bgw := mt_2 78 rfl (by decide +kernel)
set_option maxRecDepth 20000 in
theorem mb_319 : (.methodLink "PermitRulesLaw" 55 (⟨"PermitRulesLaw", "say", "(LPermitRules;J[J)I"⟩ : MethodName) : Cond) ∈ bgw := mt_2 79 rfl (by decide +kernel)
set_option maxRecDepth 20000 in
theorem mb_320 : (.static (⟨"PermitRulesLaw", "say", "(LPermitRules;J[J)I"⟩ : MethodName) : Cond) ∈ bgw := mt_2 80 rfl (by decide +kernel)
set_option maxRecDepth 20000 in
theorem mb_322 : (.classLink "PermitRulesLaw" 13 "java/lang/IllegalArgumentException" : Cond) ∈ bgw := mt_2 82 rfl (by decide +kernel)
set_option maxRecDepth 20000 in
theorem mb_323 : (.classLink "PermitRulesLaw" 15 "java/lang/IllegalStateException" : Cond) ∈ bgw := mt_2 83 rfl (by decide +kernel)
set_option maxRecDepth 20000 in
theorem mb_324 : (.methodLink "PermitRulesLaw" 7 (⟨"PermitRules", "say", "(J)I"⟩ : MethodName) : Cond) ∈ bgw := mt_2 84 rfl (by decide +kernel)
set_option maxRecDepth 20000 in
theorem mb_325 : (.instanceMethod (⟨"PermitRules", "say", "(J)I"⟩ : MethodName) : Cond) ∈ bgw := mt_2 85 rfl (by decide +kernel)
set_option maxRecDepth 20000 in
theorem mb_326 : (.selects "PermitRules" (⟨"PermitRules", "say", "(J)I"⟩ : MethodName) (⟨"PermitRules", "say", "(J)I"⟩ : MethodName) : Cond) ∈ bgw := mt_2 86 rfl (by decide +kernel)
set_option maxRecDepth 20000 in
theorem mb_327 : (.code (⟨"PermitRules", "say", "(J)I"⟩ : MethodName) prog_1_method_2_code 6 (some .int) : Cond) ∈ bgw := mt_2 87 rfl (by decide +kernel)
set_option maxRecDepth 20000 in
theorem mb_328 : (.methodLink "PermitRules" 59 (⟨"PermitRules", "charactersIn", "(J)I"⟩ : MethodName) : Cond) ∈ bgw := mt_2 88 rfl (by decide +kernel)
set_option maxRecDepth 20000 in
theorem mb_329 : (.static (⟨"PermitRules", "charactersIn", "(J)I"⟩ : MethodName) : Cond) ∈ bgw := mt_2 89 rfl (by decide +kernel)
set_option maxRecDepth 20000 in
theorem mb_330 : (.code (⟨"PermitRules", "charactersIn", "(J)I"⟩ : MethodName) prog_1_method_18_code 5 (some .int) : Cond) ∈ bgw := mt_2 90 rfl (by decide +kernel)
set_option maxRecDepth 20000 in
theorem mb_331 : (.methodLink "PermitRules" 78 (⟨"PermitRules", "byteAt", "(JI)I"⟩ : MethodName) : Cond) ∈ bgw := mt_2 91 rfl (by decide +kernel)
set_option maxRecDepth 20000 in
theorem mb_332 : (.static (⟨"PermitRules", "byteAt", "(JI)I"⟩ : MethodName) : Cond) ∈ bgw := mt_2 92 rfl (by decide +kernel)
set_option maxRecDepth 20000 in
theorem mb_333 : (.code (⟨"PermitRules", "byteAt", "(JI)I"⟩ : MethodName) prog_1_method_17_code 3 (some .int) : Cond) ∈ bgw := mt_2 93 rfl (by decide +kernel)
set_option maxRecDepth 20000 in
theorem mb_334 : (.classLink "PermitRules" 63 "java/lang/IllegalArgumentException" : Cond) ∈ bgw := mt_2 94 rfl (by decide +kernel)
set_option maxRecDepth 20000 in
theorem mb_335 : (.instantiable "java/lang/IllegalArgumentException" 6 : Cond) ∈ bgw := mt_2 95 rfl (by decide +kernel)
set_option maxRecDepth 20000 in
theorem mb_343 : (.selects "java/lang/IllegalArgumentException" (⟨"java/lang/Throwable", "fillInStackTrace", "(I)Ljava/lang/Throwable;"⟩ : MethodName) (⟨"java/lang/Throwable", "fillInStackTrace", "(I)Ljava/lang/Throwable;"⟩ : MethodName) : Cond) ∈ bgw := mt_2 103 rfl (by decide +kernel)
set_option maxRecDepth 20000 in
theorem mb_344 : (.selects "java/lang/IllegalArgumentException" (⟨"java/lang/Throwable", "fillInStackTrace", "()Ljava/lang/Throwable;"⟩ : MethodName) (⟨"java/lang/Throwable", "fillInStackTrace", "()Ljava/lang/Throwable;"⟩ : MethodName) : Cond) ∈ bgw := mt_2 104 rfl (by decide +kernel)
set_option maxRecDepth 20000 in
theorem mb_345 : (.lays "java/lang/IllegalArgumentException" "java/lang/Throwable" "cause" "Ljava/lang/Throwable;" : Cond) ∈ bgw := mt_2 105 rfl (by decide +kernel)
set_option maxRecDepth 20000 in
theorem mb_346 : (.lays "java/lang/Throwable" "java/lang/Throwable" "cause" "Ljava/lang/Throwable;" : Cond) ∈ bgw := mt_2 106 rfl (by decide +kernel)
set_option maxRecDepth 20000 in
theorem mb_347 : (.lays "java/lang/IllegalArgumentException" "java/lang/Throwable" "stackTrace" "[Ljava/lang/StackTraceElement;" : Cond) ∈ bgw := mt_2 107 rfl (by decide +kernel)
set_option maxRecDepth 20000 in
theorem mb_348 : (.lays "java/lang/Throwable" "java/lang/Throwable" "stackTrace" "[Ljava/lang/StackTraceElement;" : Cond) ∈ bgw := mt_2 108 rfl (by decide +kernel)
set_option maxRecDepth 20000 in
theorem mb_349 : (.lays "java/lang/IllegalArgumentException" "java/lang/Throwable" "suppressedExceptions" "Ljava/util/List;" : Cond) ∈ bgw := mt_2 109 rfl (by decide +kernel)
set_option maxRecDepth 20000 in
theorem mb_350 : (.lays "java/lang/Throwable" "java/lang/Throwable" "suppressedExceptions" "Ljava/util/List;" : Cond) ∈ bgw := mt_2 110 rfl (by decide +kernel)
set_option maxRecDepth 20000 in
theorem mb_351 : (.lays "java/lang/IllegalArgumentException" "java/lang/Throwable" "detailMessage" "Ljava/lang/String;" : Cond) ∈ bgw := mt_2 111 rfl (by decide +kernel)
set_option maxRecDepth 20000 in
theorem mb_352 : (.lays "java/lang/Throwable" "java/lang/Throwable" "detailMessage" "Ljava/lang/String;" : Cond) ∈ bgw := mt_2 112 rfl (by decide +kernel)
set_option maxRecDepth 20000 in
theorem mb_353 : (.lays "java/lang/IllegalArgumentException" "java/lang/Throwable" "backtrace" "Ljava/lang/Object;" : Cond) ∈ bgw := mt_2 113 rfl (by decide +kernel)
set_option maxRecDepth 20000 in
theorem mb_354 : (.lays "java/lang/Throwable" "java/lang/Throwable" "backtrace" "Ljava/lang/Object;" : Cond) ∈ bgw := mt_2 114 rfl (by decide +kernel)
set_option maxRecDepth 20000 in
theorem mb_355 : (.fieldLink "java/lang/Throwable" 198 "java/lang/Throwable" "backtrace" "Ljava/lang/Object;" : Cond) ∈ bgw := mt_2 115 rfl (by decide +kernel)
set_option maxRecDepth 20000 in
theorem mb_357 : (.instanceMethod (⟨"java/lang/Throwable", "<init>", "()V"⟩ : MethodName) : Cond) ∈ bgw := mt_2 117 rfl (by decide +kernel)
set_option maxRecDepth 20000 in
theorem mb_358 : (.code (⟨"java/lang/Throwable", "<init>", "()V"⟩ : MethodName) prog_16_method_1_code 1 none : Cond) ∈ bgw := mt_2 118 rfl (by decide +kernel)
set_option maxRecDepth 20000 in
theorem mb_359 : (.methodLink "java/lang/Throwable" 1 (⟨"java/lang/Object", "<init>", "()V"⟩ : MethodName) : Cond) ∈ bgw := mt_2 119 rfl (by decide +kernel)
set_option maxRecDepth 20000 in
theorem mb_360 : (.fieldLink "java/lang/Throwable" 13 "java/lang/Throwable" "UNASSIGNED_STACK" "[Ljava/lang/StackTraceElement;" : Cond) ∈ bgw := mt_2 120 rfl (by decide +kernel)
set_option maxRecDepth 20000 in
theorem mb_362 : (.fieldLink "java/lang/Throwable" 20 "java/lang/Throwable" "SUPPRESSED_SENTINEL" "Ljava/util/List;" : Cond) ∈ bgw := mt_2 122 rfl (by decide +kernel)
set_option maxRecDepth 20000 in
theorem mb_364 : (.methodLink "java/lang/Throwable" 27 (⟨"java/lang/Throwable", "fillInStackTrace", "()Ljava/lang/Throwable;"⟩ : MethodName) : Cond) ∈ bgw := mt_2 124 rfl (by decide +kernel)
set_option maxRecDepth 20000 in
theorem mb_365 : (.instanceMethod (⟨"java/lang/Throwable", "fillInStackTrace", "()Ljava/lang/Throwable;"⟩ : MethodName) : Cond) ∈ bgw := mt_2 125 rfl (by decide +kernel)
set_option maxRecDepth 20000 in
theorem mb_367 : (.selects "java/lang/IllegalStateException" (⟨"java/lang/Throwable", "fillInStackTrace", "()Ljava/lang/Throwable;"⟩ : MethodName) (⟨"java/lang/Throwable", "fillInStackTrace", "()Ljava/lang/Throwable;"⟩ : MethodName) : Cond) ∈ bgw := mt_2 127 rfl (by decide +kernel)
set_option maxRecDepth 20000 in
theorem mb_369 : (.methodLink "java/lang/Throwable" 202 (⟨"java/lang/Throwable", "fillInStackTrace", "(I)Ljava/lang/Throwable;"⟩ : MethodName) : Cond) ∈ bgw := mt_2 129 rfl (by decide +kernel)
set_option maxRecDepth 20000 in
theorem mb_371 : (.instanceMethod (⟨"java/lang/Throwable", "fillInStackTrace", "(I)Ljava/lang/Throwable;"⟩ : MethodName) : Cond) ∈ bgw := mt_2 131 rfl (by decide +kernel)
set_option maxRecDepth 20000 in
theorem mb_372 : (.instantiable "java/lang/Throwable" 6 : Cond) ∈ bgw := mt_2 132 rfl (by decide +kernel)
set_option maxRecDepth 20000 in
theorem mb_375 : (.methodLink "PermitRules" 67 (⟨"java/lang/IllegalArgumentException", "<init>", "(Ljava/lang/String;)V"⟩ : MethodName) : Cond) ∈ bgw := mt_2 135 rfl (by decide +kernel)
set_option maxRecDepth 20000 in
theorem mb_376 : (.instanceMethod (⟨"java/lang/IllegalArgumentException", "<init>", "(Ljava/lang/String;)V"⟩ : MethodName) : Cond) ∈ bgw := mt_2 136 rfl (by decide +kernel)
set_option maxRecDepth 20000 in
theorem mb_377 : (.code (⟨"java/lang/IllegalArgumentException", "<init>", "(Ljava/lang/String;)V"⟩ : MethodName) prog_12_method_2_code 2 none : Cond) ∈ bgw := mt_2 137 rfl (by decide +kernel)
set_option maxRecDepth 20000 in
theorem mb_378 : (.methodLink "java/lang/IllegalArgumentException" 7 (⟨"java/lang/RuntimeException", "<init>", "(Ljava/lang/String;)V"⟩ : MethodName) : Cond) ∈ bgw := mt_2 138 rfl (by decide +kernel)
set_option maxRecDepth 20000 in
theorem mb_379 : (.instanceMethod (⟨"java/lang/RuntimeException", "<init>", "(Ljava/lang/String;)V"⟩ : MethodName) : Cond) ∈ bgw := mt_2 139 rfl (by decide +kernel)
set_option maxRecDepth 20000 in
theorem mb_380 : (.code (⟨"java/lang/RuntimeException", "<init>", "(Ljava/lang/String;)V"⟩ : MethodName) prog_14_method_2_code 2 none : Cond) ∈ bgw := mt_2 140 rfl (by decide +kernel)
set_option maxRecDepth 20000 in
theorem mb_381 : (.methodLink "java/lang/RuntimeException" 7 (⟨"java/lang/Exception", "<init>", "(Ljava/lang/String;)V"⟩ : MethodName) : Cond) ∈ bgw := mt_2 141 rfl (by decide +kernel)
set_option maxRecDepth 20000 in
theorem mb_382 : (.instanceMethod (⟨"java/lang/Exception", "<init>", "(Ljava/lang/String;)V"⟩ : MethodName) : Cond) ∈ bgw := mt_2 142 rfl (by decide +kernel)
set_option maxRecDepth 20000 in
theorem mb_383 : (.code (⟨"java/lang/Exception", "<init>", "(Ljava/lang/String;)V"⟩ : MethodName) prog_11_method_2_code 2 none : Cond) ∈ bgw := mt_2 143 rfl (by decide +kernel)
set_option maxRecDepth 20000 in
theorem mb_384 : (.methodLink "java/lang/Exception" 7 (⟨"java/lang/Throwable", "<init>", "(Ljava/lang/String;)V"⟩ : MethodName) : Cond) ∈ bgw := mt_2 144 rfl (by decide +kernel)
set_option maxRecDepth 20000 in
theorem mb_385 : (.instanceMethod (⟨"java/lang/Throwable", "<init>", "(Ljava/lang/String;)V"⟩ : MethodName) : Cond) ∈ bgw := mt_2 145 rfl (by decide +kernel)
set_option maxRecDepth 20000 in
theorem mb_386 : (.code (⟨"java/lang/Throwable", "<init>", "(Ljava/lang/String;)V"⟩ : MethodName) prog_16_method_2_code 2 none : Cond) ∈ bgw := mt_2 146 rfl (by decide +kernel)
set_option maxRecDepth 20000 in
theorem mb_388 : (.fieldLink "java/lang/Throwable" 31 "java/lang/Throwable" "detailMessage" "Ljava/lang/String;" : Cond) ∈ bgw := mt_2 148 rfl (by decide +kernel)
set_option maxRecDepth 20000 in
theorem mb_389 : (.fieldLink "java/lang/Throwable" 7 "java/lang/Throwable" "cause" "Ljava/lang/Throwable;" : Cond) ∈ bgw := mt_2 149 rfl (by decide +kernel)
set_option maxRecDepth 20000 in
theorem mb_390 : (.fieldLink "java/lang/Throwable" 17 "java/lang/Throwable" "stackTrace" "[Ljava/lang/StackTraceElement;" : Cond) ∈ bgw := mt_2 150 rfl (by decide +kernel)
set_option maxRecDepth 20000 in
theorem mb_391 : (.fieldLink "java/lang/Throwable" 24 "java/lang/Throwable" "suppressedExceptions" "Ljava/util/List;" : Cond) ∈ bgw := mt_2 151 rfl (by decide +kernel)
set_option maxRecDepth 20000 in
theorem mb_396 : (.lays "java/lang/IllegalArgumentException" "java/lang/Throwable" "depth" "I" : Cond) ∈ bgw := mt_2 156 rfl (by decide +kernel)
set_option maxRecDepth 20000 in
theorem mb_400 : (.classLink "PermitRules" 73 "java/lang/IllegalStateException" : Cond) ∈ bgw := mt_2 160 rfl (by decide +kernel)
set_option maxRecDepth 20000 in
theorem mb_401 : (.instantiable "java/lang/IllegalStateException" 6 : Cond) ∈ bgw := mt_2 161 rfl (by decide +kernel)
set_option maxRecDepth 20000 in
theorem mb_403 : (.selects "java/lang/IllegalStateException" (⟨"java/lang/Throwable", "fillInStackTrace", "(I)Ljava/lang/Throwable;"⟩ : MethodName) (⟨"java/lang/Throwable", "fillInStackTrace", "(I)Ljava/lang/Throwable;"⟩ : MethodName) : Cond) ∈ bgw := mt_2 163 rfl (by decide +kernel)
set_option maxRecDepth 20000 in
theorem mb_404 : (.lays "java/lang/IllegalStateException" "java/lang/Throwable" "cause" "Ljava/lang/Throwable;" : Cond) ∈ bgw := mt_2 164 rfl (by decide +kernel)
set_option maxRecDepth 20000 in
theorem mb_405 : (.lays "java/lang/IllegalStateException" "java/lang/Throwable" "stackTrace" "[Ljava/lang/StackTraceElement;" : Cond) ∈ bgw := mt_2 165 rfl (by decide +kernel)
set_option maxRecDepth 20000 in
theorem mb_406 : (.lays "java/lang/IllegalStateException" "java/lang/Throwable" "suppressedExceptions" "Ljava/util/List;" : Cond) ∈ bgw := mt_2 166 rfl (by decide +kernel)
set_option maxRecDepth 20000 in
theorem mb_407 : (.lays "java/lang/IllegalStateException" "java/lang/Throwable" "detailMessage" "Ljava/lang/String;" : Cond) ∈ bgw := mt_2 167 rfl (by decide +kernel)
set_option maxRecDepth 20000 in
theorem mb_408 : (.lays "java/lang/IllegalStateException" "java/lang/Throwable" "backtrace" "Ljava/lang/Object;" : Cond) ∈ bgw := mt_2 168 rfl (by decide +kernel)
set_option maxRecDepth 20000 in
theorem mb_410 : (.methodLink "PermitRules" 77 (⟨"java/lang/IllegalStateException", "<init>", "(Ljava/lang/String;)V"⟩ : MethodName) : Cond) ∈ bgw := mt_2 170 rfl (by decide +kernel)
set_option maxRecDepth 20000 in
theorem mb_411 : (.instanceMethod (⟨"java/lang/IllegalStateException", "<init>", "(Ljava/lang/String;)V"⟩ : MethodName) : Cond) ∈ bgw := mt_2 171 rfl (by decide +kernel)
set_option maxRecDepth 20000 in
theorem mb_412 : (.code (⟨"java/lang/IllegalStateException", "<init>", "(Ljava/lang/String;)V"⟩ : MethodName) prog_13_method_2_code 2 none : Cond) ∈ bgw := mt_2 172 rfl (by decide +kernel)
set_option maxRecDepth 20000 in
theorem mb_413 : (.methodLink "java/lang/IllegalStateException" 7 (⟨"java/lang/RuntimeException", "<init>", "(Ljava/lang/String;)V"⟩ : MethodName) : Cond) ∈ bgw := mt_2 173 rfl (by decide +kernel)
set_option maxRecDepth 20000 in
theorem mb_414 : (.lays "java/lang/IllegalStateException" "java/lang/Throwable" "depth" "I" : Cond) ∈ bgw := mt_2 174 rfl (by decide +kernel)
set_option maxRecDepth 20000 in
theorem mb_416 : (.methodLink "PermitRules" 82 (⟨"PermitRules$Text", "append", "(I)V"⟩ : MethodName) : Cond) ∈ bgw := mt_2 176 rfl (by decide +kernel)
set_option maxRecDepth 20000 in
theorem mb_417 : (.instanceMethod (⟨"PermitRules$Text", "append", "(I)V"⟩ : MethodName) : Cond) ∈ bgw := mt_2 177 rfl (by decide +kernel)
set_option maxRecDepth 20000 in
theorem mb_418 : (.selects "PermitRules$Text" (⟨"PermitRules$Text", "append", "(I)V"⟩ : MethodName) (⟨"PermitRules$Text", "append", "(I)V"⟩ : MethodName) : Cond) ∈ bgw := mt_2 178 rfl (by decide +kernel)
set_option maxRecDepth 20000 in
theorem mb_419 : (.code (⟨"PermitRules$Text", "append", "(I)V"⟩ : MethodName) prog_7_method_3_code 2 none : Cond) ∈ bgw := mt_2 179 rfl (by decide +kernel)
set_option maxRecDepth 20000 in
theorem mb_420 : (.methodLink "PermitRulesLaw" 65 (⟨"PermitRulesLaw", "trim", "(LPermitRules;I[J)I"⟩ : MethodName) : Cond) ∈ bgw := mt_2 180 rfl (by decide +kernel)
set_option maxRecDepth 20000 in
theorem mb_421 : (.static (⟨"PermitRulesLaw", "trim", "(LPermitRules;I[J)I"⟩ : MethodName) : Cond) ∈ bgw := mt_2 181 rfl (by decide +kernel)
set_option maxRecDepth 20000 in
theorem mb_423 : (.methodLink "PermitRulesLaw" 17 (⟨"PermitRules", "trim", "(I)I"⟩ : MethodName) : Cond) ∈ bgw := mt_2 183 rfl (by decide +kernel)
set_option maxRecDepth 20000 in
theorem mb_424 : (.instanceMethod (⟨"PermitRules", "trim", "(I)I"⟩ : MethodName) : Cond) ∈ bgw := mt_2 184 rfl (by decide +kernel)
set_option maxRecDepth 20000 in
theorem mb_425 : (.selects "PermitRules" (⟨"PermitRules", "trim", "(I)I"⟩ : MethodName) (⟨"PermitRules", "trim", "(I)I"⟩ : MethodName) : Cond) ∈ bgw := mt_2 185 rfl (by decide +kernel)
set_option maxRecDepth 20000 in
theorem mb_426 : (.code (⟨"PermitRules", "trim", "(I)I"⟩ : MethodName) prog_1_method_3_code 2 (some .int) : Cond) ∈ bgw := mt_2 186 rfl (by decide +kernel)
set_option maxRecDepth 20000 in
theorem mb_428 : (.methodLink "PermitRulesLaw" 73 (⟨"PermitRulesLaw", "fact", "(LPermitRules;JI[J)I"⟩ : MethodName) : Cond) ∈ bgw := mt_2 188 rfl (by decide +kernel)
set_option maxRecDepth 20000 in
theorem mb_429 : (.static (⟨"PermitRulesLaw", "fact", "(LPermitRules;JI[J)I"⟩ : MethodName) : Cond) ∈ bgw := mt_2 189 rfl (by decide +kernel)
set_option maxRecDepth 20000 in
theorem mb_431 : (.methodLink "PermitRulesLaw" 21 (⟨"PermitRules", "fact", "(JI)J"⟩ : MethodName) : Cond) ∈ bgw := mt_2 191 rfl (by decide +kernel)
set_option maxRecDepth 20000 in
theorem mb_432 : (.instanceMethod (⟨"PermitRules", "fact", "(JI)J"⟩ : MethodName) : Cond) ∈ bgw := mt_2 192 rfl (by decide +kernel)
set_option maxRecDepth 20000 in
theorem mb_433 : (.selects "PermitRules" (⟨"PermitRules", "fact", "(JI)J"⟩ : MethodName) (⟨"PermitRules", "fact", "(JI)J"⟩ : MethodName) : Cond) ∈ bgw := mt_2 193 rfl (by decide +kernel)
set_option maxRecDepth 20000 in
theorem mb_434 : (.code (⟨"PermitRules", "fact", "(JI)J"⟩ : MethodName) prog_1_method_5_code 7 (some .long) : Cond) ∈ bgw := mt_2 194 rfl (by decide +kernel)
set_option maxRecDepth 20000 in
theorem mb_435 : (.methodLink "PermitRules" 99 (⟨"PermitRules", "isName", "(J)Z"⟩ : MethodName) : Cond) ∈ bgw := mt_2 195 rfl (by decide +kernel)
set_option maxRecDepth 20000 in
theorem mb_436 : (.static (⟨"PermitRules", "isName", "(J)Z"⟩ : MethodName) : Cond) ∈ bgw := mt_2 196 rfl (by decide +kernel)
set_option maxRecDepth 20000 in
theorem mb_437 : (.code (⟨"PermitRules", "isName", "(J)Z"⟩ : MethodName) prog_1_method_19_code 5 (some .boolean) : Cond) ∈ bgw := mt_2 197 rfl (by decide +kernel)
set_option maxRecDepth 20000 in
theorem mb_438 : (.methodLink "PermitRules" 206 (⟨"PermitRules", "isLetter", "(I)Z"⟩ : MethodName) : Cond) ∈ bgw := mt_2 198 rfl (by decide +kernel)
set_option maxRecDepth 20000 in
theorem mb_440 : (.methodLink "PermitRules" 105 (⟨"PermitRules", "isValue", "(I)Z"⟩ : MethodName) : Cond) ∈ bgw := mt_2 200 rfl (by decide +kernel)
set_option maxRecDepth 20000 in
theorem mb_441 : (.static (⟨"PermitRules", "isValue", "(I)Z"⟩ : MethodName) : Cond) ∈ bgw := mt_2 201 rfl (by decide +kernel)
set_option maxRecDepth 20000 in
theorem mb_442 : (.code (⟨"PermitRules", "isValue", "(I)Z"⟩ : MethodName) prog_1_method_20_code 1 (some .boolean) : Cond) ∈ bgw := mt_2 202 rfl (by decide +kernel)
set_option maxRecDepth 20000 in
theorem mb_443 : (.constant "PermitRules" 209 (-1000000000) : Cond) ∈ bgw := mt_2 203 rfl (by decide +kernel)
set_option maxRecDepth 20000 in
theorem mb_444 : (.constant "PermitRules" 210 1000000000 : Cond) ∈ bgw := mt_2 204 rfl (by decide +kernel)
set_option maxRecDepth 20000 in
theorem mb_446 : (.methodLink "PermitRules" 111 (⟨"PermitRules$Facts", "find", "(J)I"⟩ : MethodName) : Cond) ∈ bgw := mt_2 206 rfl (by decide +kernel)
set_option maxRecDepth 20000 in
theorem mb_447 : (.instanceMethod (⟨"PermitRules$Facts", "find", "(J)I"⟩ : MethodName) : Cond) ∈ bgw := mt_2 207 rfl (by decide +kernel)
set_option maxRecDepth 20000 in
theorem mb_448 : (.selects "PermitRules$Facts" (⟨"PermitRules$Facts", "find", "(J)I"⟩ : MethodName) (⟨"PermitRules$Facts", "find", "(J)I"⟩ : MethodName) : Cond) ∈ bgw := mt_2 208 rfl (by decide +kernel)
set_option maxRecDepth 20000 in
theorem mb_449 : (.code (⟨"PermitRules$Facts", "find", "(J)I"⟩ : MethodName) prog_3_method_2_code 4 (some .int) : Cond) ∈ bgw := mt_2 209 rfl (by decide +kernel)
set_option maxRecDepth 20000 in
theorem mb_451 : (.methodLink "PermitRules" 119 (⟨"PermitRules$Facts", "add", "(JI)V"⟩ : MethodName) : Cond) ∈ bgw := mt_2 211 rfl (by decide +kernel)
set_option maxRecDepth 20000 in
theorem mb_452 : (.instanceMethod (⟨"PermitRules$Facts", "add", "(JI)V"⟩ : MethodName) : Cond) ∈ bgw := mt_2 212 rfl (by decide +kernel)
set_option maxRecDepth 20000 in
theorem mb_453 : (.selects "PermitRules$Facts" (⟨"PermitRules$Facts", "add", "(JI)V"⟩ : MethodName) (⟨"PermitRules$Facts", "add", "(JI)V"⟩ : MethodName) : Cond) ∈ bgw := mt_2 213 rfl (by decide +kernel)
set_option maxRecDepth 20000 in
theorem mb_454 : (.code (⟨"PermitRules$Facts", "add", "(JI)V"⟩ : MethodName) prog_3_method_5_code 4 none : Cond) ∈ bgw := mt_2 214 rfl (by decide +kernel)
set_option maxRecDepth 20000 in
theorem mb_455 : (.constantLong "PermitRules" 123 1000000000000 : Cond) ∈ bgw := mt_2 215 rfl (by decide +kernel)
set_option maxRecDepth 20000 in
theorem mb_456 : (.methodLink "PermitRules" 125 (⟨"PermitRules$Facts", "valueAt", "(I)I"⟩ : MethodName) : Cond) ∈ bgw := mt_2 216 rfl (by decide +kernel)
set_option maxRecDepth 20000 in
theorem mb_457 : (.instanceMethod (⟨"PermitRules$Facts", "valueAt", "(I)I"⟩ : MethodName) : Cond) ∈ bgw := mt_2 217 rfl (by decide +kernel)
set_option maxRecDepth 20000 in
theorem mb_458 : (.selects "PermitRules$Facts" (⟨"PermitRules$Facts", "valueAt", "(I)I"⟩ : MethodName) (⟨"PermitRules$Facts", "valueAt", "(I)I"⟩ : MethodName) : Cond) ∈ bgw := mt_2 218 rfl (by decide +kernel)
set_option maxRecDepth 20000 in
theorem mb_459 : (.code (⟨"PermitRules$Facts", "valueAt", "(I)I"⟩ : MethodName) prog_3_method_3_code 2 (some .int) : Cond) ∈ bgw := mt_2 219 rfl (by decide +kernel)
set_option maxRecDepth 20000 in
theorem mb_460 : (.methodLink "PermitRules" 129 (⟨"PermitRules$Facts", "change", "(II)V"⟩ : MethodName) : Cond) ∈ bgw := mt_2 220 rfl (by decide +kernel)
set_option maxRecDepth 20000 in
theorem mb_461 : (.instanceMethod (⟨"PermitRules$Facts", "change", "(II)V"⟩ : MethodName) : Cond) ∈ bgw := mt_2 221 rfl (by decide +kernel)
set_option maxRecDepth 20000 in
theorem mb_462 : (.selects "PermitRules$Facts" (⟨"PermitRules$Facts", "change", "(II)V"⟩ : MethodName) (⟨"PermitRules$Facts", "change", "(II)V"⟩ : MethodName) : Cond) ∈ bgw := mt_2 222 rfl (by decide +kernel)
set_option maxRecDepth 20000 in
theorem mb_463 : (.code (⟨"PermitRules$Facts", "change", "(II)V"⟩ : MethodName) prog_3_method_4_code 3 none : Cond) ∈ bgw := mt_2 223 rfl (by decide +kernel)
set_option maxRecDepth 20000 in
theorem mb_464 : (.methodLink "PermitRulesLaw" 77 (⟨"PermitRulesLaw", "forget", "(LPermitRules;J[J)I"⟩ : MethodName) : Cond) ∈ bgw := mt_2 224 rfl (by decide +kernel)
set_option maxRecDepth 20000 in
theorem mb_465 : (.static (⟨"PermitRulesLaw", "forget", "(LPermitRules;J[J)I"⟩ : MethodName) : Cond) ∈ bgw := mt_2 225 rfl (by decide +kernel)
set_option maxRecDepth 20000 in
theorem mb_467 : (.methodLink "PermitRulesLaw" 25 (⟨"PermitRules", "forget", "(J)J"⟩ : MethodName) : Cond) ∈ bgw := mt_2 227 rfl (by decide +kernel)
set_option maxRecDepth 20000 in
theorem mb_468 : (.instanceMethod (⟨"PermitRules", "forget", "(J)J"⟩ : MethodName) : Cond) ∈ bgw := mt_2 228 rfl (by decide +kernel)
set_option maxRecDepth 20000 in
theorem mb_469 : (.selects "PermitRules" (⟨"PermitRules", "forget", "(J)J"⟩ : MethodName) (⟨"PermitRules", "forget", "(J)J"⟩ : MethodName) : Cond) ∈ bgw := mt_2 229 rfl (by decide +kernel)
set_option maxRecDepth 20000 in
theorem mb_470 : (.code (⟨"PermitRules", "forget", "(J)J"⟩ : MethodName) prog_1_method_6_code 6 (some .long) : Cond) ∈ bgw := mt_2 230 rfl (by decide +kernel)
set_option maxRecDepth 20000 in
theorem mb_471 : (.methodLink "PermitRules" 133 (⟨"PermitRules$Facts", "drop", "(I)V"⟩ : MethodName) : Cond) ∈ bgw := mt_2 231 rfl (by decide +kernel)
set_option maxRecDepth 20000 in
theorem mb_472 : (.instanceMethod (⟨"PermitRules$Facts", "drop", "(I)V"⟩ : MethodName) : Cond) ∈ bgw := mt_2 232 rfl (by decide +kernel)
set_option maxRecDepth 20000 in
theorem mb_473 : (.selects "PermitRules$Facts" (⟨"PermitRules$Facts", "drop", "(I)V"⟩ : MethodName) (⟨"PermitRules$Facts", "drop", "(I)V"⟩ : MethodName) : Cond) ∈ bgw := mt_2 233 rfl (by decide +kernel)
set_option maxRecDepth 20000 in
theorem mb_474 : (.code (⟨"PermitRules$Facts", "drop", "(I)V"⟩ : MethodName) prog_3_method_6_code 3 none : Cond) ∈ bgw := mt_2 234 rfl (by decide +kernel)
set_option maxRecDepth 20000 in
theorem mb_475 : (.methodLink "PermitRulesLaw" 80 (⟨"PermitRulesLaw", "run", "(LPermitRules;I[J)I"⟩ : MethodName) : Cond) ∈ bgw := mt_2 235 rfl (by decide +kernel)
set_option maxRecDepth 20000 in
theorem mb_476 : (.static (⟨"PermitRulesLaw", "run", "(LPermitRules;I[J)I"⟩ : MethodName) : Cond) ∈ bgw := mt_2 236 rfl (by decide +kernel)
set_option maxRecDepth 20000 in
theorem mb_478 : (.methodLink "PermitRulesLaw" 29 (⟨"PermitRules", "run", "(I)I"⟩ : MethodName) : Cond) ∈ bgw := mt_2 238 rfl (by decide +kernel)
set_option maxRecDepth 20000 in
theorem mb_479 : (.instanceMethod (⟨"PermitRules", "run", "(I)I"⟩ : MethodName) : Cond) ∈ bgw := mt_2 239 rfl (by decide +kernel)
theorem mb_480 : (.selects "PermitRules" (⟨"PermitRules", "run", "(I)I"⟩ : MethodName) (⟨"PermitRules", "run", "(I)I"⟩ : MethodName) : Cond) ∈ bgw := mt_3 0 rfl (by decide +kernel)
theorem mb_481 : (.code (⟨"PermitRules", "run", "(I)I"⟩ : MethodName) prog_1_method_7_code 4 (some .int) : Cond) ∈ bgw := mt_3 1 rfl (by decide +kernel)
theorem mb_482 : (.constant "PermitRules" 136 1000000 : Cond) ∈ bgw := mt_3 2 rfl (by decide +kernel)
theorem mb_484 : (.methodLink "PermitRules" 139 (⟨"PermitRules$Judge", "ask", "(LPermitRules$Book;LPermitRules$Facts;II)V"⟩ : MethodName) : Cond) ∈ bgw := mt_3 4 rfl (by decide +kernel)
theorem mb_485 : (.instanceMethod (⟨"PermitRules$Judge", "ask", "(LPermitRules$Book;LPermitRules$Facts;II)V"⟩ : MethodName) : Cond) ∈ bgw := mt_3 5 rfl (by decide +kernel)
theorem mb_486 : (.selects "PermitRules$Judge" (⟨"PermitRules$Judge", "ask", "(LPermitRules$Book;LPermitRules$Facts;II)V"⟩ : MethodName) (⟨"PermitRules$Judge", "ask", "(LPermitRules$Book;LPermitRules$Facts;II)V"⟩ : MethodName) : Cond) ∈ bgw := mt_3 6 rfl (by decide +kernel)
theorem mb_487 : (.code (⟨"PermitRules$Judge", "ask", "(LPermitRules$Book;LPermitRules$Facts;II)V"⟩ : MethodName) prog_4_method_2_code 9 none : Cond) ∈ bgw := mt_3 7 rfl (by decide +kernel)
theorem mb_488 : (.methodLink "PermitRules$Judge" 35 (⟨"PermitRules$Reckoner", "restart", "()V"⟩ : MethodName) : Cond) ∈ bgw := mt_3 8 rfl (by decide +kernel)
theorem mb_489 : (.instanceMethod (⟨"PermitRules$Reckoner", "restart", "()V"⟩ : MethodName) : Cond) ∈ bgw := mt_3 9 rfl (by decide +kernel)
theorem mb_490 : (.selects "PermitRules$Reckoner" (⟨"PermitRules$Reckoner", "restart", "()V"⟩ : MethodName) (⟨"PermitRules$Reckoner", "restart", "()V"⟩ : MethodName) : Cond) ∈ bgw := mt_3 10 rfl (by decide +kernel)
theorem mb_491 : (.code (⟨"PermitRules$Reckoner", "restart", "()V"⟩ : MethodName) prog_6_method_2_code 1 none : Cond) ∈ bgw := mt_3 11 rfl (by decide +kernel)
theorem mb_492 : (.methodLink "PermitRules$Judge" 38 (⟨"PermitRules$Book", "dayOf", "(I)J"⟩ : MethodName) : Cond) ∈ bgw := mt_3 12 rfl (by decide +kernel)
theorem mb_493 : (.instanceMethod (⟨"PermitRules$Book", "dayOf", "(I)J"⟩ : MethodName) : Cond) ∈ bgw := mt_3 13 rfl (by decide +kernel)
theorem mb_494 : (.selects "PermitRules$Book" (⟨"PermitRules$Book", "dayOf", "(I)J"⟩ : MethodName) (⟨"PermitRules$Book", "dayOf", "(I)J"⟩ : MethodName) : Cond) ∈ bgw := mt_3 14 rfl (by decide +kernel)
theorem mb_495 : (.code (⟨"PermitRules$Book", "dayOf", "(I)J"⟩ : MethodName) prog_2_method_8_code 2 (some .long) : Cond) ∈ bgw := mt_3 15 rfl (by decide +kernel)
theorem mb_496 : (.methodLink "PermitRules$Judge" 44 (⟨"PermitRules$Book", "firstClauseOf", "(I)I"⟩ : MethodName) : Cond) ∈ bgw := mt_3 16 rfl (by decide +kernel)
theorem mb_497 : (.instanceMethod (⟨"PermitRules$Book", "firstClauseOf", "(I)I"⟩ : MethodName) : Cond) ∈ bgw := mt_3 17 rfl (by decide +kernel)
theorem mb_498 : (.selects "PermitRules$Book" (⟨"PermitRules$Book", "firstClauseOf", "(I)I"⟩ : MethodName) (⟨"PermitRules$Book", "firstClauseOf", "(I)I"⟩ : MethodName) : Cond) ∈ bgw := mt_3 18 rfl (by decide +kernel)
theorem mb_499 : (.code (⟨"PermitRules$Book", "firstClauseOf", "(I)I"⟩ : MethodName) prog_2_method_9_code 2 (some .int) : Cond) ∈ bgw := mt_3 19 rfl (by decide +kernel)
theorem mb_500 : (.methodLink "PermitRules$Book" 51 (⟨"PermitRules$Book", "clauseBehind", "(I)I"⟩ : MethodName) : Cond) ∈ bgw := mt_3 20 rfl (by decide +kernel)
theorem mb_501 : (.instanceMethod (⟨"PermitRules$Book", "clauseBehind", "(I)I"⟩ : MethodName) : Cond) ∈ bgw := mt_3 21 rfl (by decide +kernel)
theorem mb_502 : (.selects "PermitRules$Book" (⟨"PermitRules$Book", "clauseBehind", "(I)I"⟩ : MethodName) (⟨"PermitRules$Book", "clauseBehind", "(I)I"⟩ : MethodName) : Cond) ∈ bgw := mt_3 22 rfl (by decide +kernel)
theorem mb_503 : (.code (⟨"PermitRules$Book", "clauseBehind", "(I)I"⟩ : MethodName) prog_2_method_10_code 2 (some .int) : Cond) ∈ bgw := mt_3 23 rfl (by decide +kernel)
theorem mb_504 : (.methodLink "PermitRules$Judge" 48 (⟨"PermitRules$Book", "clauseBehind", "(I)I"⟩ : MethodName) : Cond) ∈ bgw := mt_3 24 rfl (by decide +kernel)
theorem mb_505 : (.methodLink "PermitRules$Judge" 51 (⟨"PermitRules$Judge", "holds", "(LPermitRules$Book;LPermitRules$Facts;IZ)Z"⟩ : MethodName) : Cond) ∈ bgw := mt_3 25 rfl (by decide +kernel)
theorem mb_507 : (.instanceMethod (⟨"PermitRules$Judge", "holds", "(LPermitRules$Book;LPermitRules$Facts;IZ)Z"⟩ : MethodName) : Cond) ∈ bgw := mt_3 27 rfl (by decide +kernel)
theorem mb_508 : (.code (⟨"PermitRules$Judge", "holds", "(LPermitRules$Book;LPermitRules$Facts;IZ)Z"⟩ : MethodName) prog_4_method_3_code 14 (some .boolean) : Cond) ∈ bgw := mt_3 28 rfl (by decide +kernel)
theorem mb_509 : (.methodLink "PermitRules$Judge" 58 (⟨"PermitRules$Book", "stepBehindLeft", "(I)I"⟩ : MethodName) : Cond) ∈ bgw := mt_3 29 rfl (by decide +kernel)
theorem mb_510 : (.instanceMethod (⟨"PermitRules$Book", "stepBehindLeft", "(I)I"⟩ : MethodName) : Cond) ∈ bgw := mt_3 30 rfl (by decide +kernel)
