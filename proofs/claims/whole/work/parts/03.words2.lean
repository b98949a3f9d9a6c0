theorem mb_511 : (.selects "PermitRules$Book" (⟨"PermitRules$Book", "stepBehindLeft", "(I)I"⟩ : MethodName) (⟨"PermitRules$Book", "stepBehindLeft", "(I)I"⟩ : MethodName) : Cond) ∈ bgw := mt_3 31 rfl (by decide +kernel)
theorem mb_512 : (.code (⟨"PermitRules$Book", "stepBehindLeft", "(I)I"⟩ : MethodName) prog_2_method_13_code 2 (some .int) : Cond) ∈ bgw := mt_3 32 rfl (by decide +kernel)
theorem mb_513 : (.methodLink "PermitRules$Judge" 61 (⟨"PermitRules$Book", "firstStepOf", "(I)I"⟩ : MethodName) : Cond) ∈ bgw := mt_3 33 rfl (by decide +kernel)
theorem mb_514 : (.instanceMethod (⟨"PermitRules$Book", "firstStepOf", "(I)I"⟩ : MethodName) : Cond) ∈ bgw := mt_3 34 rfl (by decide +kernel)
theorem mb_515 : (.selects "PermitRules$Book" (⟨"PermitRules$Book", "firstStepOf", "(I)I"⟩ : MethodName) (⟨"PermitRules$Book", "firstStepOf", "(I)I"⟩ : MethodName) : Cond) ∈ bgw := mt_3 35 rfl (by decide +kernel)
theorem mb_516 : (.code (⟨"PermitRules$Book", "firstStepOf", "(I)I"⟩ : MethodName) prog_2_method_12_code 2 (some .int) : Cond) ∈ bgw := mt_3 36 rfl (by decide +kernel)
theorem mb_517 : (.methodLink "PermitRules$Book" 55 (⟨"PermitRules$Book", "stepBehindRight", "(I)I"⟩ : MethodName) : Cond) ∈ bgw := mt_3 37 rfl (by decide +kernel)
theorem mb_518 : (.instanceMethod (⟨"PermitRules$Book", "stepBehindRight", "(I)I"⟩ : MethodName) : Cond) ∈ bgw := mt_3 38 rfl (by decide +kernel)
theorem mb_519 : (.selects "PermitRules$Book" (⟨"PermitRules$Book", "stepBehindRight", "(I)I"⟩ : MethodName) (⟨"PermitRules$Book", "stepBehindRight", "(I)I"⟩ : MethodName) : Cond) ∈ bgw := mt_3 39 rfl (by decide +kernel)
theorem mb_520 : (.code (⟨"PermitRules$Book", "stepBehindRight", "(I)I"⟩ : MethodName) prog_2_method_14_code 2 (some .int) : Cond) ∈ bgw := mt_3 40 rfl (by decide +kernel)
theorem mb_521 : (.methodLink "PermitRules$Judge" 64 (⟨"PermitRules$Reckoner", "reckonSide", "(LPermitRules$Book;LPermitRules$Facts;II)V"⟩ : MethodName) : Cond) ∈ bgw := mt_3 41 rfl (by decide +kernel)
theorem mb_522 : (.instanceMethod (⟨"PermitRules$Reckoner", "reckonSide", "(LPermitRules$Book;LPermitRules$Facts;II)V"⟩ : MethodName) : Cond) ∈ bgw := mt_3 42 rfl (by decide +kernel)
theorem mb_523 : (.selects "PermitRules$Reckoner" (⟨"PermitRules$Reckoner", "reckonSide", "(LPermitRules$Book;LPermitRules$Facts;II)V"⟩ : MethodName) (⟨"PermitRules$Reckoner", "reckonSide", "(LPermitRules$Book;LPermitRules$Facts;II)V"⟩ : MethodName) : Cond) ∈ bgw := mt_3 43 rfl (by decide +kernel)
theorem mb_524 : (.code (⟨"PermitRules$Reckoner", "reckonSide", "(LPermitRules$Book;LPermitRules$Facts;II)V"⟩ : MethodName) prog_6_method_3_code 7 none : Cond) ∈ bgw := mt_3 44 rfl (by decide +kernel)
theorem mb_525 : (.methodLink "PermitRules$Reckoner" 29 (⟨"PermitRules$Book", "kindAt", "(I)I"⟩ : MethodName) : Cond) ∈ bgw := mt_3 45 rfl (by decide +kernel)
theorem mb_526 : (.instanceMethod (⟨"PermitRules$Book", "kindAt", "(I)I"⟩ : MethodName) : Cond) ∈ bgw := mt_3 46 rfl (by decide +kernel)
theorem mb_527 : (.selects "PermitRules$Book" (⟨"PermitRules$Book", "kindAt", "(I)I"⟩ : MethodName) (⟨"PermitRules$Book", "kindAt", "(I)I"⟩ : MethodName) : Cond) ∈ bgw := mt_3 47 rfl (by decide +kernel)
theorem mb_528 : (.code (⟨"PermitRules$Book", "kindAt", "(I)I"⟩ : MethodName) prog_2_method_15_code 2 (some .int) : Cond) ∈ bgw := mt_3 48 rfl (by decide +kernel)
theorem mb_529 : (.methodLink "PermitRules$Reckoner" 35 (⟨"PermitRules$Book", "worthAt", "(I)J"⟩ : MethodName) : Cond) ∈ bgw := mt_3 49 rfl (by decide +kernel)
theorem mb_530 : (.instanceMethod (⟨"PermitRules$Book", "worthAt", "(I)J"⟩ : MethodName) : Cond) ∈ bgw := mt_3 50 rfl (by decide +kernel)
theorem mb_531 : (.selects "PermitRules$Book" (⟨"PermitRules$Book", "worthAt", "(I)J"⟩ : MethodName) (⟨"PermitRules$Book", "worthAt", "(I)J"⟩ : MethodName) : Cond) ∈ bgw := mt_3 51 rfl (by decide +kernel)
theorem mb_532 : (.code (⟨"PermitRules$Book", "worthAt", "(I)J"⟩ : MethodName) prog_2_method_16_code 2 (some .long) : Cond) ∈ bgw := mt_3 52 rfl (by decide +kernel)
theorem mb_533 : (.methodLink "PermitRules$Reckoner" 39 (⟨"PermitRules$Reckoner", "push", "(JJ)V"⟩ : MethodName) : Cond) ∈ bgw := mt_3 53 rfl (by decide +kernel)
theorem mb_535 : (.instanceMethod (⟨"PermitRules$Reckoner", "push", "(JJ)V"⟩ : MethodName) : Cond) ∈ bgw := mt_3 55 rfl (by decide +kernel)
theorem mb_536 : (.code (⟨"PermitRules$Reckoner", "push", "(JJ)V"⟩ : MethodName) prog_6_method_9_code 5 none : Cond) ∈ bgw := mt_3 56 rfl (by decide +kernel)
theorem mb_537 : (.methodLink "PermitRules$Reckoner" 43 (⟨"PermitRules$Reckoner", "pushFact", "(LPermitRules$Facts;J)V"⟩ : MethodName) : Cond) ∈ bgw := mt_3 57 rfl (by decide +kernel)
theorem mb_539 : (.instanceMethod (⟨"PermitRules$Reckoner", "pushFact", "(LPermitRules$Facts;J)V"⟩ : MethodName) : Cond) ∈ bgw := mt_3 59 rfl (by decide +kernel)
theorem mb_540 : (.code (⟨"PermitRules$Reckoner", "pushFact", "(LPermitRules$Facts;J)V"⟩ : MethodName) prog_6_method_10_code 5 none : Cond) ∈ bgw := mt_3 60 rfl (by decide +kernel)
set_option maxRecDepth 20000 in
theorem mb_541 : (.methodLink "PermitRules$Reckoner" 55 (⟨"PermitRules$Facts", "find", "(J)I"⟩ : MethodName) : Cond) ∈ bgw := mt_3 61 rfl (by decide +kernel)
set_option maxRecDepth 20000 in
theorem mb_542 : (.methodLink "PermitRules$Reckoner" 61 (⟨"PermitRules$Facts", "valueAt", "(I)I"⟩ : MethodName) : Cond) ∈ bgw := mt_3 62 rfl (by decide +kernel)
set_option maxRecDepth 20000 in
theorem mb_543 : (.methodLink "PermitRules$Reckoner" 47 (⟨"PermitRules$Reckoner", "join", "(I)V"⟩ : MethodName) : Cond) ∈ bgw := mt_3 63 rfl (by decide +kernel)
set_option maxRecDepth 20000 in
theorem mb_545 : (.instanceMethod (⟨"PermitRules$Reckoner", "join", "(I)V"⟩ : MethodName) : Cond) ∈ bgw := mt_3 65 rfl (by decide +kernel)
set_option maxRecDepth 20000 in
theorem mb_546 : (.code (⟨"PermitRules$Reckoner", "join", "(I)V"⟩ : MethodName) prog_6_method_11_code 10 none : Cond) ∈ bgw := mt_3 66 rfl (by decide +kernel)
set_option maxRecDepth 20000 in
theorem mb_547 : (.methodLink "PermitRules$Reckoner" 64 (⟨"PermitRules$Reckoner", "upper", "()J"⟩ : MethodName) : Cond) ∈ bgw := mt_3 67 rfl (by decide +kernel)
set_option maxRecDepth 20000 in
theorem mb_548 : (.instanceMethod (⟨"PermitRules$Reckoner", "upper", "()J"⟩ : MethodName) : Cond) ∈ bgw := mt_3 68 rfl (by decide +kernel)
set_option maxRecDepth 20000 in
theorem mb_549 : (.selects "PermitRules$Reckoner" (⟨"PermitRules$Reckoner", "upper", "()J"⟩ : MethodName) (⟨"PermitRules$Reckoner", "upper", "()J"⟩ : MethodName) : Cond) ∈ bgw := mt_3 69 rfl (by decide +kernel)
set_option maxRecDepth 20000 in
theorem mb_550 : (.code (⟨"PermitRules$Reckoner", "upper", "()J"⟩ : MethodName) prog_6_method_4_code 1 (some .long) : Cond) ∈ bgw := mt_3 70 rfl (by decide +kernel)
set_option maxRecDepth 20000 in
theorem mb_551 : (.methodLink "PermitRules$Reckoner" 68 (⟨"PermitRules$Reckoner", "lower", "()J"⟩ : MethodName) : Cond) ∈ bgw := mt_3 71 rfl (by decide +kernel)
set_option maxRecDepth 20000 in
theorem mb_552 : (.instanceMethod (⟨"PermitRules$Reckoner", "lower", "()J"⟩ : MethodName) : Cond) ∈ bgw := mt_3 72 rfl (by decide +kernel)
set_option maxRecDepth 20000 in
theorem mb_553 : (.selects "PermitRules$Reckoner" (⟨"PermitRules$Reckoner", "lower", "()J"⟩ : MethodName) (⟨"PermitRules$Reckoner", "lower", "()J"⟩ : MethodName) : Cond) ∈ bgw := mt_3 73 rfl (by decide +kernel)
set_option maxRecDepth 20000 in
theorem mb_554 : (.code (⟨"PermitRules$Reckoner", "lower", "()J"⟩ : MethodName) prog_6_method_5_code 1 (some .long) : Cond) ∈ bgw := mt_3 74 rfl (by decide +kernel)
set_option maxRecDepth 20000 in
theorem mb_555 : (.methodLink "PermitRules$Reckoner" 71 (⟨"PermitRules$Reckoner", "product", "(JJ)J"⟩ : MethodName) : Cond) ∈ bgw := mt_3 75 rfl (by decide +kernel)
set_option maxRecDepth 20000 in
theorem mb_556 : (.instanceMethod (⟨"PermitRules$Reckoner", "product", "(JJ)J"⟩ : MethodName) : Cond) ∈ bgw := mt_3 76 rfl (by decide +kernel)
set_option maxRecDepth 20000 in
theorem mb_557 : (.selects "PermitRules$Reckoner" (⟨"PermitRules$Reckoner", "product", "(JJ)J"⟩ : MethodName) (⟨"PermitRules$Reckoner", "product", "(JJ)J"⟩ : MethodName) : Cond) ∈ bgw := mt_3 77 rfl (by decide +kernel)
set_option maxRecDepth 20000 in
theorem mb_558 : (.code (⟨"PermitRules$Reckoner", "product", "(JJ)J"⟩ : MethodName) prog_6_method_6_code 8 (some .long) : Cond) ∈ bgw := mt_3 78 rfl (by decide +kernel)
set_option maxRecDepth 20000 in
theorem mb_559 : (.constantLong "PermitRules$Reckoner" 51 (-1) : Cond) ∈ bgw := mt_3 79 rfl (by decide +kernel)
set_option maxRecDepth 20000 in
theorem mb_560 : (.constantLong "PermitRules$Reckoner" 53 (-9223372036854775808) : Cond) ∈ bgw := mt_3 80 rfl (by decide +kernel)
set_option maxRecDepth 20000 in
theorem mb_561 : (.methodLink "PermitRules$Reckoner" 75 (⟨"PermitRules$Reckoner", "settle", "(JJ)V"⟩ : MethodName) : Cond) ∈ bgw := mt_3 81 rfl (by decide +kernel)
set_option maxRecDepth 20000 in
theorem mb_563 : (.instanceMethod (⟨"PermitRules$Reckoner", "settle", "(JJ)V"⟩ : MethodName) : Cond) ∈ bgw := mt_3 83 rfl (by decide +kernel)
set_option maxRecDepth 20000 in
theorem mb_564 : (.code (⟨"PermitRules$Reckoner", "settle", "(JJ)V"⟩ : MethodName) prog_6_method_12_code 9 none : Cond) ∈ bgw := mt_3 84 rfl (by decide +kernel)
set_option maxRecDepth 20000 in
theorem mb_565 : (.methodLink "PermitRules$Reckoner" 84 (⟨"PermitRules$Reckoner", "commonDivisor", "(JJ)J"⟩ : MethodName) : Cond) ∈ bgw := mt_3 85 rfl (by decide +kernel)
set_option maxRecDepth 20000 in
theorem mb_566 : (.static (⟨"PermitRules$Reckoner", "commonDivisor", "(JJ)J"⟩ : MethodName) : Cond) ∈ bgw := mt_3 86 rfl (by decide +kernel)
set_option maxRecDepth 20000 in
theorem mb_567 : (.code (⟨"PermitRules$Reckoner", "commonDivisor", "(JJ)J"⟩ : MethodName) prog_6_method_13_code 11 (some .long) : Cond) ∈ bgw := mt_3 87 rfl (by decide +kernel)
set_option maxRecDepth 20000 in
theorem mb_568 : (.methodLink "PermitRules$Reckoner" 78 (⟨"PermitRules$Reckoner", "sum", "(JJ)J"⟩ : MethodName) : Cond) ∈ bgw := mt_3 88 rfl (by decide +kernel)
set_option maxRecDepth 20000 in
theorem mb_570 : (.instanceMethod (⟨"PermitRules$Reckoner", "sum", "(JJ)J"⟩ : MethodName) : Cond) ∈ bgw := mt_3 90 rfl (by decide +kernel)
set_option maxRecDepth 20000 in
theorem mb_571 : (.code (⟨"PermitRules$Reckoner", "sum", "(JJ)J"⟩ : MethodName) prog_6_method_7_code 7 (some .long) : Cond) ∈ bgw := mt_3 91 rfl (by decide +kernel)
set_option maxRecDepth 20000 in
theorem mb_572 : (.methodLink "PermitRules$Reckoner" 81 (⟨"PermitRules$Reckoner", "difference", "(JJ)J"⟩ : MethodName) : Cond) ∈ bgw := mt_3 92 rfl (by decide +kernel)
set_option maxRecDepth 20000 in
theorem mb_574 : (.instanceMethod (⟨"PermitRules$Reckoner", "difference", "(JJ)J"⟩ : MethodName) : Cond) ∈ bgw := mt_3 94 rfl (by decide +kernel)
set_option maxRecDepth 20000 in
theorem mb_575 : (.code (⟨"PermitRules$Reckoner", "difference", "(JJ)J"⟩ : MethodName) prog_6_method_8_code 7 (some .long) : Cond) ∈ bgw := mt_3 95 rfl (by decide +kernel)
set_option maxRecDepth 20000 in
theorem mb_576 : (.methodLink "PermitRules$Judge" 68 (⟨"PermitRules$Reckoner", "upper", "()J"⟩ : MethodName) : Cond) ∈ bgw := mt_3 96 rfl (by decide +kernel)
set_option maxRecDepth 20000 in
theorem mb_577 : (.methodLink "PermitRules$Judge" 72 (⟨"PermitRules$Reckoner", "lower", "()J"⟩ : MethodName) : Cond) ∈ bgw := mt_3 97 rfl (by decide +kernel)
set_option maxRecDepth 20000 in
theorem mb_578 : (.methodLink "PermitRules$Judge" 75 (⟨"PermitRules$Book", "stepBehindRight", "(I)I"⟩ : MethodName) : Cond) ∈ bgw := mt_3 98 rfl (by decide +kernel)
set_option maxRecDepth 20000 in
theorem mb_579 : (.methodLink "PermitRules$Judge" 78 (⟨"PermitRules$Book", "signOf", "(I)I"⟩ : MethodName) : Cond) ∈ bgw := mt_3 99 rfl (by decide +kernel)
set_option maxRecDepth 20000 in
theorem mb_580 : (.instanceMethod (⟨"PermitRules$Book", "signOf", "(I)I"⟩ : MethodName) : Cond) ∈ bgw := mt_3 100 rfl (by decide +kernel)
set_option maxRecDepth 20000 in
theorem mb_581 : (.selects "PermitRules$Book" (⟨"PermitRules$Book", "signOf", "(I)I"⟩ : MethodName) (⟨"PermitRules$Book", "signOf", "(I)I"⟩ : MethodName) : Cond) ∈ bgw := mt_3 101 rfl (by decide +kernel)
set_option maxRecDepth 20000 in
theorem mb_582 : (.code (⟨"PermitRules$Book", "signOf", "(I)I"⟩ : MethodName) prog_2_method_11_code 2 (some .int) : Cond) ∈ bgw := mt_3 102 rfl (by decide +kernel)
set_option maxRecDepth 20000 in
theorem mb_583 : (.methodLink "PermitRules$Judge" 81 (⟨"PermitRules$Reckoner", "product", "(JJ)J"⟩ : MethodName) : Cond) ∈ bgw := mt_3 103 rfl (by decide +kernel)
set_option maxRecDepth 20000 in
theorem mb_584 : (.methodLink "PermitRules$Judge" 85 (⟨"PermitRules$Judge", "compare", "(IJJ)Z"⟩ : MethodName) : Cond) ∈ bgw := mt_3 104 rfl (by decide +kernel)
set_option maxRecDepth 20000 in
theorem mb_585 : (.static (⟨"PermitRules$Judge", "compare", "(IJJ)Z"⟩ : MethodName) : Cond) ∈ bgw := mt_3 105 rfl (by decide +kernel)
set_option maxRecDepth 20000 in
theorem mb_586 : (.code (⟨"PermitRules$Judge", "compare", "(IJJ)Z"⟩ : MethodName) prog_4_method_4_code 5 (some .boolean) : Cond) ∈ bgw := mt_3 106 rfl (by decide +kernel)
set_option maxRecDepth 20000 in
theorem mb_587 : (.methodLink "PermitRules" 143 (⟨"PermitRules", "keepAnswers", "(I)V"⟩ : MethodName) : Cond) ∈ bgw := mt_3 107 rfl (by decide +kernel)
set_option maxRecDepth 20000 in
theorem mb_589 : (.instanceMethod (⟨"PermitRules", "keepAnswers", "(I)V"⟩ : MethodName) : Cond) ∈ bgw := mt_3 109 rfl (by decide +kernel)
set_option maxRecDepth 20000 in
theorem mb_590 : (.code (⟨"PermitRules", "keepAnswers", "(I)V"⟩ : MethodName) prog_1_method_14_code 2 none : Cond) ∈ bgw := mt_3 110 rfl (by decide +kernel)
set_option maxRecDepth 20000 in
theorem mb_591 : (.methodLink "PermitRules" 177 (⟨"PermitRules", "keepAnswer", "(IIJ)V"⟩ : MethodName) : Cond) ∈ bgw := mt_3 111 rfl (by decide +kernel)
set_option maxRecDepth 20000 in
theorem mb_593 : (.instanceMethod (⟨"PermitRules", "keepAnswer", "(IIJ)V"⟩ : MethodName) : Cond) ∈ bgw := mt_3 113 rfl (by decide +kernel)
set_option maxRecDepth 20000 in
theorem mb_594 : (.code (⟨"PermitRules", "keepAnswer", "(IIJ)V"⟩ : MethodName) prog_1_method_15_code 6 none : Cond) ∈ bgw := mt_3 114 rfl (by decide +kernel)
set_option maxRecDepth 20000 in
theorem mb_595 : (.methodLink "PermitRulesLaw" 83 (⟨"PermitRulesLaw", "rule", "(LPermitRules;J[J)I"⟩ : MethodName) : Cond) ∈ bgw := mt_3 115 rfl (by decide +kernel)
set_option maxRecDepth 20000 in
theorem mb_596 : (.static (⟨"PermitRulesLaw", "rule", "(LPermitRules;J[J)I"⟩ : MethodName) : Cond) ∈ bgw := mt_3 116 rfl (by decide +kernel)
set_option maxRecDepth 20000 in
theorem mb_598 : (.methodLink "PermitRulesLaw" 32 (⟨"PermitRules", "rule", "(J)I"⟩ : MethodName) : Cond) ∈ bgw := mt_3 118 rfl (by decide +kernel)
set_option maxRecDepth 20000 in
theorem mb_599 : (.instanceMethod (⟨"PermitRules", "rule", "(J)I"⟩ : MethodName) : Cond) ∈ bgw := mt_3 119 rfl (by decide +kernel)
set_option maxRecDepth 20000 in
theorem mb_600 : (.selects "PermitRules" (⟨"PermitRules", "rule", "(J)I"⟩ : MethodName) (⟨"PermitRules", "rule", "(J)I"⟩ : MethodName) : Cond) ∈ bgw := mt_3 120 rfl (by decide +kernel)
set_option maxRecDepth 20000 in
theorem mb_601 : (.code (⟨"PermitRules", "rule", "(J)I"⟩ : MethodName) prog_1_method_8_code 3 (some .int) : Cond) ∈ bgw := mt_3 121 rfl (by decide +kernel)
set_option maxRecDepth 20000 in
theorem mb_602 : (.methodLink "PermitRules" 149 (⟨"PermitRules$Book", "find", "(J)I"⟩ : MethodName) : Cond) ∈ bgw := mt_3 122 rfl (by decide +kernel)
set_option maxRecDepth 20000 in
theorem mb_603 : (.methodLink "PermitRulesLaw" 86 (⟨"PermitRulesLaw", "told", "(LPermitRules;II[J)I"⟩ : MethodName) : Cond) ∈ bgw := mt_3 123 rfl (by decide +kernel)
set_option maxRecDepth 20000 in
theorem mb_604 : (.static (⟨"PermitRulesLaw", "told", "(LPermitRules;II[J)I"⟩ : MethodName) : Cond) ∈ bgw := mt_3 124 rfl (by decide +kernel)
set_option maxRecDepth 20000 in
theorem mb_606 : (.methodLink "PermitRulesLaw" 35 (⟨"PermitRules", "told", "(II)J"⟩ : MethodName) : Cond) ∈ bgw := mt_3 126 rfl (by decide +kernel)
set_option maxRecDepth 20000 in
theorem mb_607 : (.instanceMethod (⟨"PermitRules", "told", "(II)J"⟩ : MethodName) : Cond) ∈ bgw := mt_3 127 rfl (by decide +kernel)
set_option maxRecDepth 20000 in
theorem mb_608 : (.selects "PermitRules" (⟨"PermitRules", "told", "(II)J"⟩ : MethodName) (⟨"PermitRules", "told", "(II)J"⟩ : MethodName) : Cond) ∈ bgw := mt_3 128 rfl (by decide +kernel)
set_option maxRecDepth 20000 in
theorem mb_609 : (.code (⟨"PermitRules", "told", "(II)J"⟩ : MethodName) prog_1_method_9_code 3 (some .long) : Cond) ∈ bgw := mt_3 129 rfl (by decide +kernel)
set_option maxRecDepth 20000 in
theorem mb_613 : (.methodLink "PermitRules" 156 (⟨"PermitRules", "answerOf", "(II)J"⟩ : MethodName) : Cond) ∈ bgw := mt_3 133 rfl (by decide +kernel)
set_option maxRecDepth 20000 in
theorem mb_615 : (.instanceMethod (⟨"PermitRules", "answerOf", "(II)J"⟩ : MethodName) : Cond) ∈ bgw := mt_3 135 rfl (by decide +kernel)
set_option maxRecDepth 20000 in
theorem mb_616 : (.code (⟨"PermitRules", "answerOf", "(II)J"⟩ : MethodName) prog_1_method_16_code 4 (some .long) : Cond) ∈ bgw := mt_3 136 rfl (by decide +kernel)
set_option maxRecDepth 20000 in
theorem mb_617 : (.methodLink "PermitRulesLaw" 90 (⟨"PermitRulesLaw", "broken", "(LPermitRules;I[J)I"⟩ : MethodName) : Cond) ∈ bgw := mt_3 137 rfl (by decide +kernel)
set_option maxRecDepth 20000 in
theorem mb_618 : (.static (⟨"PermitRulesLaw", "broken", "(LPermitRules;I[J)I"⟩ : MethodName) : Cond) ∈ bgw := mt_3 138 rfl (by decide +kernel)
set_option maxRecDepth 20000 in
theorem mb_620 : (.methodLink "PermitRulesLaw" 39 (⟨"PermitRules", "broken", "(I)I"⟩ : MethodName) : Cond) ∈ bgw := mt_3 140 rfl (by decide +kernel)
set_option maxRecDepth 20000 in
theorem mb_621 : (.instanceMethod (⟨"PermitRules", "broken", "(I)I"⟩ : MethodName) : Cond) ∈ bgw := mt_3 141 rfl (by decide +kernel)
set_option maxRecDepth 20000 in
theorem mb_622 : (.selects "PermitRules" (⟨"PermitRules", "broken", "(I)I"⟩ : MethodName) (⟨"PermitRules", "broken", "(I)I"⟩ : MethodName) : Cond) ∈ bgw := mt_3 142 rfl (by decide +kernel)
set_option maxRecDepth 20000 in
theorem mb_623 : (.code (⟨"PermitRules", "broken", "(I)I"⟩ : MethodName) prog_1_method_10_code 4 (some .int) : Cond) ∈ bgw := mt_3 143 rfl (by decide +kernel)
set_option maxRecDepth 20000 in
theorem mb_626 : (.methodLink "PermitRulesLaw" 93 (⟨"PermitRulesLaw", "suggest", "(LPermitRules;IJI[J)I"⟩ : MethodName) : Cond) ∈ bgw := mt_3 146 rfl (by decide +kernel)
set_option maxRecDepth 20000 in
theorem mb_627 : (.static (⟨"PermitRulesLaw", "suggest", "(LPermitRules;IJI[J)I"⟩ : MethodName) : Cond) ∈ bgw := mt_3 147 rfl (by decide +kernel)
set_option maxRecDepth 20000 in
theorem mb_629 : (.methodLink "PermitRulesLaw" 42 (⟨"PermitRules", "suggest", "(IJI)J"⟩ : MethodName) : Cond) ∈ bgw := mt_3 149 rfl (by decide +kernel)
set_option maxRecDepth 20000 in
theorem mb_630 : (.instanceMethod (⟨"PermitRules", "suggest", "(IJI)J"⟩ : MethodName) : Cond) ∈ bgw := mt_3 150 rfl (by decide +kernel)
set_option maxRecDepth 20000 in
theorem mb_631 : (.selects "PermitRules" (⟨"PermitRules", "suggest", "(IJI)J"⟩ : MethodName) (⟨"PermitRules", "suggest", "(IJI)J"⟩ : MethodName) : Cond) ∈ bgw := mt_3 151 rfl (by decide +kernel)
set_option maxRecDepth 20000 in
theorem mb_632 : (.code (⟨"PermitRules", "suggest", "(IJI)J"⟩ : MethodName) prog_1_method_11_code 8 (some .long) : Cond) ∈ bgw := mt_3 152 rfl (by decide +kernel)
set_option maxRecDepth 20000 in
theorem mb_635 : (.methodLink "PermitRules" 168 (⟨"PermitRules", "wouldDo", "(III)Z"⟩ : MethodName) : Cond) ∈ bgw := mt_3 155 rfl (by decide +kernel)
set_option maxRecDepth 20000 in
theorem mb_637 : (.instanceMethod (⟨"PermitRules", "wouldDo", "(III)Z"⟩ : MethodName) : Cond) ∈ bgw := mt_3 157 rfl (by decide +kernel)
set_option maxRecDepth 20000 in
theorem mb_638 : (.code (⟨"PermitRules", "wouldDo", "(III)Z"⟩ : MethodName) prog_1_method_13_code 5 (some .boolean) : Cond) ∈ bgw := mt_3 158 rfl (by decide +kernel)
set_option maxRecDepth 20000 in
theorem mb_639 : (.methodLink "PermitRulesLaw" 97 (⟨"PermitRulesLaw", "count", "(LPermitRules;I[J)I"⟩ : MethodName) : Cond) ∈ bgw := mt_3 159 rfl (by decide +kernel)
set_option maxRecDepth 20000 in
theorem mb_640 : (.static (⟨"PermitRulesLaw", "count", "(LPermitRules;I[J)I"⟩ : MethodName) : Cond) ∈ bgw := mt_3 160 rfl (by decide +kernel)
set_option maxRecDepth 20000 in
theorem mb_642 : (.methodLink "PermitRulesLaw" 46 (⟨"PermitRules", "count", "(I)I"⟩ : MethodName) : Cond) ∈ bgw := mt_3 162 rfl (by decide +kernel)
set_option maxRecDepth 20000 in
theorem mb_643 : (.instanceMethod (⟨"PermitRules", "count", "(I)I"⟩ : MethodName) : Cond) ∈ bgw := mt_3 163 rfl (by decide +kernel)
set_option maxRecDepth 20000 in
theorem mb_644 : (.selects "PermitRules" (⟨"PermitRules", "count", "(I)I"⟩ : MethodName) (⟨"PermitRules", "count", "(I)I"⟩ : MethodName) : Cond) ∈ bgw := mt_3 164 rfl (by decide +kernel)
set_option maxRecDepth 20000 in
theorem mb_645 : (.code (⟨"PermitRules", "count", "(I)I"⟩ : MethodName) prog_1_method_12_code 2 (some .int) : Cond) ∈ bgw := mt_3 165 rfl (by decide +kernel)
set_option maxRecDepth 20000 in
theorem mb_647 : (.classLink "PermitRulesLaw" 50 "PermitRulesModel" : Cond) ∈ bgw := mt_3 167 rfl (by decide +kernel)
set_option maxRecDepth 20000 in
theorem mb_648 : (.instantiable "PermitRulesModel" 40 : Cond) ∈ bgw := mt_3 168 rfl (by decide +kernel)
set_option maxRecDepth 20000 in
theorem mb_649 : (.methodLink "PermitRulesLaw" 52 (⟨"PermitRulesModel", "<init>", "()V"⟩ : MethodName) : Cond) ∈ bgw := mt_3 169 rfl (by decide +kernel)
set_option maxRecDepth 20000 in
theorem mb_650 : (.instanceMethod (⟨"PermitRulesModel", "<init>", "()V"⟩ : MethodName) : Cond) ∈ bgw := mt_3 170 rfl (by decide +kernel)
set_option maxRecDepth 20000 in
theorem mb_651 : (.code (⟨"PermitRulesModel", "<init>", "()V"⟩ : MethodName) prog_10_method_1_code 1 none : Cond) ∈ bgw := mt_3 171 rfl (by decide +kernel)
set_option maxRecDepth 20000 in
theorem mb_652 : (.methodLink "PermitRulesModel" 1 (⟨"java/lang/Object", "<init>", "()V"⟩ : MethodName) : Cond) ∈ bgw := mt_3 172 rfl (by decide +kernel)
set_option maxRecDepth 20000 in
theorem mb_653 : (.fieldLink "PermitRulesModel" 62 "PermitRulesModel" "thrown" "I" : Cond) ∈ bgw := mt_3 173 rfl (by decide +kernel)
set_option maxRecDepth 20000 in
theorem mb_654 : (.fieldLink "PermitRulesModel" 7 "PermitRulesModel" "text" "[I" : Cond) ∈ bgw := mt_3 174 rfl (by decide +kernel)
set_option maxRecDepth 20000 in
theorem mb_655 : (.fieldLink "PermitRulesModel" 76 "PermitRulesModel" "length" "I" : Cond) ∈ bgw := mt_3 175 rfl (by decide +kernel)
set_option maxRecDepth 20000 in
theorem mb_656 : (.fieldLink "PermitRulesModel" 91 "PermitRulesModel" "at" "I" : Cond) ∈ bgw := mt_3 176 rfl (by decide +kernel)
set_option maxRecDepth 20000 in
theorem mb_657 : (.fieldLink "PermitRulesModel" 97 "PermitRulesModel" "kind" "I" : Cond) ∈ bgw := mt_3 177 rfl (by decide +kernel)
set_option maxRecDepth 20000 in
theorem mb_658 : (.fieldLink "PermitRulesModel" 94 "PermitRulesModel" "place" "I" : Cond) ∈ bgw := mt_3 178 rfl (by decide +kernel)
set_option maxRecDepth 20000 in
theorem mb_659 : (.fieldLink "PermitRulesModel" 103 "PermitRulesModel" "value" "J" : Cond) ∈ bgw := mt_3 179 rfl (by decide +kernel)
set_option maxRecDepth 20000 in
theorem mb_660 : (.fieldLink "PermitRulesModel" 100 "PermitRulesModel" "words" "I" : Cond) ∈ bgw := mt_3 180 rfl (by decide +kernel)
set_option maxRecDepth 20000 in
theorem mb_661 : (.fieldLink "PermitRulesModel" 13 "PermitRulesModel" "names" "[J" : Cond) ∈ bgw := mt_3 181 rfl (by decide +kernel)
set_option maxRecDepth 20000 in
theorem mb_662 : (.fieldLink "PermitRulesModel" 17 "PermitRulesModel" "days" "[J" : Cond) ∈ bgw := mt_3 182 rfl (by decide +kernel)
set_option maxRecDepth 20000 in
theorem mb_663 : (.fieldLink "PermitRulesModel" 20 "PermitRulesModel" "firstClauses" "[I" : Cond) ∈ bgw := mt_3 183 rfl (by decide +kernel)
set_option maxRecDepth 20000 in
theorem mb_664 : (.fieldLink "PermitRulesModel" 23 "PermitRulesModel" "signs" "[I" : Cond) ∈ bgw := mt_3 184 rfl (by decide +kernel)
set_option maxRecDepth 20000 in
theorem mb_665 : (.fieldLink "PermitRulesModel" 26 "PermitRulesModel" "leftFrom" "[I" : Cond) ∈ bgw := mt_3 185 rfl (by decide +kernel)
set_option maxRecDepth 20000 in
theorem mb_666 : (.fieldLink "PermitRulesModel" 29 "PermitRulesModel" "rightFrom" "[I" : Cond) ∈ bgw := mt_3 186 rfl (by decide +kernel)
set_option maxRecDepth 20000 in
theorem mb_667 : (.fieldLink "PermitRulesModel" 32 "PermitRulesModel" "clauseEnd" "[I" : Cond) ∈ bgw := mt_3 187 rfl (by decide +kernel)
set_option maxRecDepth 20000 in
theorem mb_668 : (.fieldLink "PermitRulesModel" 35 "PermitRulesModel" "stepKinds" "[I" : Cond) ∈ bgw := mt_3 188 rfl (by decide +kernel)
set_option maxRecDepth 20000 in
theorem mb_669 : (.fieldLink "PermitRulesModel" 38 "PermitRulesModel" "stepValues" "[J" : Cond) ∈ bgw := mt_3 189 rfl (by decide +kernel)
set_option maxRecDepth 20000 in
theorem mb_670 : (.fieldLink "PermitRulesModel" 134 "PermitRulesModel" "draftRules" "I" : Cond) ∈ bgw := mt_3 190 rfl (by decide +kernel)
set_option maxRecDepth 20000 in
theorem mb_671 : (.fieldLink "PermitRulesModel" 137 "PermitRulesModel" "draftClauses" "I" : Cond) ∈ bgw := mt_3 191 rfl (by decide +kernel)
set_option maxRecDepth 20000 in
theorem mb_672 : (.fieldLink "PermitRulesModel" 121 "PermitRulesModel" "draftSteps" "I" : Cond) ∈ bgw := mt_3 192 rfl (by decide +kernel)
set_option maxRecDepth 20000 in
theorem mb_673 : (.fieldLink "PermitRulesModel" 160 "PermitRulesModel" "rules" "I" : Cond) ∈ bgw := mt_3 193 rfl (by decide +kernel)
set_option maxRecDepth 20000 in
theorem mb_674 : (.fieldLink "PermitRulesModel" 163 "PermitRulesModel" "clauses" "I" : Cond) ∈ bgw := mt_3 194 rfl (by decide +kernel)
set_option maxRecDepth 20000 in
theorem mb_675 : (.fieldLink "PermitRulesModel" 41 "PermitRulesModel" "open" "[I" : Cond) ∈ bgw := mt_3 195 rfl (by decide +kernel)
set_option maxRecDepth 20000 in
theorem mb_676 : (.fieldLink "PermitRulesModel" 124 "PermitRulesModel" "openSize" "I" : Cond) ∈ bgw := mt_3 196 rfl (by decide +kernel)
set_option maxRecDepth 20000 in
theorem mb_677 : (.fieldLink "PermitRulesModel" 170 "PermitRulesModel" "facts" "I" : Cond) ∈ bgw := mt_3 197 rfl (by decide +kernel)
set_option maxRecDepth 20000 in
theorem mb_678 : (.fieldLink "PermitRulesModel" 44 "PermitRulesModel" "factNames" "[J" : Cond) ∈ bgw := mt_3 198 rfl (by decide +kernel)
set_option maxRecDepth 20000 in
theorem mb_679 : (.fieldLink "PermitRulesModel" 47 "PermitRulesModel" "factValues" "[J" : Cond) ∈ bgw := mt_3 199 rfl (by decide +kernel)
set_option maxRecDepth 20000 in
theorem mb_680 : (.fieldLink "PermitRulesModel" 50 "PermitRulesModel" "ups" "[J" : Cond) ∈ bgw := mt_3 200 rfl (by decide +kernel)
set_option maxRecDepth 20000 in
theorem mb_681 : (.fieldLink "PermitRulesModel" 53 "PermitRulesModel" "downs" "[J" : Cond) ∈ bgw := mt_3 201 rfl (by decide +kernel)
set_option maxRecDepth 20000 in
theorem mb_682 : (.fieldLink "PermitRulesModel" 200 "PermitRulesModel" "pile" "I" : Cond) ∈ bgw := mt_3 202 rfl (by decide +kernel)
set_option maxRecDepth 20000 in
theorem mb_683 : (.fieldLink "PermitRulesModel" 186 "PermitRulesModel" "why" "I" : Cond) ∈ bgw := mt_3 203 rfl (by decide +kernel)
set_option maxRecDepth 20000 in
theorem mb_684 : (.fieldLink "PermitRulesModel" 213 "PermitRulesModel" "missing" "J" : Cond) ∈ bgw := mt_3 204 rfl (by decide +kernel)
set_option maxRecDepth 20000 in
theorem mb_685 : (.fieldLink "PermitRulesModel" 166 "PermitRulesModel" "asked" "Z" : Cond) ∈ bgw := mt_3 205 rfl (by decide +kernel)
set_option maxRecDepth 20000 in
theorem mb_686 : (.fieldLink "PermitRulesModel" 243 "PermitRulesModel" "day" "I" : Cond) ∈ bgw := mt_3 206 rfl (by decide +kernel)
set_option maxRecDepth 20000 in
theorem mb_687 : (.fieldLink "PermitRulesModel" 56 "PermitRulesModel" "states" "[I" : Cond) ∈ bgw := mt_3 207 rfl (by decide +kernel)
set_option maxRecDepth 20000 in
theorem mb_688 : (.fieldLink "PermitRulesModel" 59 "PermitRulesModel" "results" "[J" : Cond) ∈ bgw := mt_3 208 rfl (by decide +kernel)
set_option maxRecDepth 20000 in
theorem mb_689 : (.fieldLink "PermitRulesModel" 219 "PermitRulesModel" "leftUp" "J" : Cond) ∈ bgw := mt_3 209 rfl (by decide +kernel)
set_option maxRecDepth 20000 in
theorem mb_690 : (.fieldLink "PermitRulesModel" 222 "PermitRulesModel" "leftDown" "J" : Cond) ∈ bgw := mt_3 210 rfl (by decide +kernel)
set_option maxRecDepth 20000 in
theorem mb_691 : (.fieldLink "PermitRulesModel" 225 "PermitRulesModel" "rightUp" "J" : Cond) ∈ bgw := mt_3 211 rfl (by decide +kernel)
set_option maxRecDepth 20000 in
theorem mb_692 : (.fieldLink "PermitRulesModel" 228 "PermitRulesModel" "rightDown" "J" : Cond) ∈ bgw := mt_3 212 rfl (by decide +kernel)
set_option maxRecDepth 20000 in
theorem mb_693 : (.lays "PermitRulesModel" "PermitRulesModel" "thrown" "I" : Cond) ∈ bgw := mt_3 213 rfl (by decide +kernel)
set_option maxRecDepth 20000 in
theorem mb_695 : (.laysFinal "PermitRulesModel" "PermitRulesModel" "text" "[I" : Cond) ∈ bgw := mt_3 215 rfl (by decide +kernel)
set_option maxRecDepth 20000 in
theorem mb_697 : (.lays "PermitRulesModel" "PermitRulesModel" "length" "I" : Cond) ∈ bgw := mt_3 217 rfl (by decide +kernel)
set_option maxRecDepth 20000 in
theorem mb_699 : (.lays "PermitRulesModel" "PermitRulesModel" "at" "I" : Cond) ∈ bgw := mt_3 219 rfl (by decide +kernel)
set_option maxRecDepth 20000 in
theorem mb_701 : (.lays "PermitRulesModel" "PermitRulesModel" "kind" "I" : Cond) ∈ bgw := mt_3 221 rfl (by decide +kernel)
set_option maxRecDepth 20000 in
theorem mb_703 : (.lays "PermitRulesModel" "PermitRulesModel" "place" "I" : Cond) ∈ bgw := mt_3 223 rfl (by decide +kernel)
set_option maxRecDepth 20000 in
theorem mb_705 : (.lays "PermitRulesModel" "PermitRulesModel" "value" "J" : Cond) ∈ bgw := mt_3 225 rfl (by decide +kernel)
set_option maxRecDepth 20000 in
theorem mb_707 : (.lays "PermitRulesModel" "PermitRulesModel" "words" "I" : Cond) ∈ bgw := mt_3 227 rfl (by decide +kernel)
set_option maxRecDepth 20000 in
theorem mb_709 : (.laysFinal "PermitRulesModel" "PermitRulesModel" "names" "[J" : Cond) ∈ bgw := mt_3 229 rfl (by decide +kernel)
set_option maxRecDepth 20000 in
theorem mb_711 : (.laysFinal "PermitRulesModel" "PermitRulesModel" "days" "[J" : Cond) ∈ bgw := mt_3 231 rfl (by decide +kernel)
set_option maxRecDepth 20000 in
theorem mb_713 : (.laysFinal "PermitRulesModel" "PermitRulesModel" "firstClauses" "[I" : Cond) ∈ bgw := mt_3 233 rfl (by decide +kernel)
set_option maxRecDepth 20000 in
theorem mb_715 : (.laysFinal "PermitRulesModel" "PermitRulesModel" "signs" "[I" : Cond) ∈ bgw := mt_3 235 rfl (by decide +kernel)
set_option maxRecDepth 20000 in
theorem mb_717 : (.laysFinal "PermitRulesModel" "PermitRulesModel" "leftFrom" "[I" : Cond) ∈ bgw := mt_3 237 rfl (by decide +kernel)
set_option maxRecDepth 20000 in
theorem mb_719 : (.laysFinal "PermitRulesModel" "PermitRulesModel" "rightFrom" "[I" : Cond) ∈ bgw := mt_3 239 rfl (by decide +kernel)
theorem mb_721 : (.laysFinal "PermitRulesModel" "PermitRulesModel" "clauseEnd" "[I" : Cond) ∈ bgw := mt_4 1 rfl (by decide +kernel)
theorem mb_723 : (.laysFinal "PermitRulesModel" "PermitRulesModel" "stepKinds" "[I" : Cond) ∈ bgw := mt_4 3 rfl (by decide +kernel)
theorem mb_725 : (.laysFinal "PermitRulesModel" "PermitRulesModel" "stepValues" "[J" : Cond) ∈ bgw := mt_4 5 rfl (by decide +kernel)
theorem mb_727 : (.lays "PermitRulesModel" "PermitRulesModel" "draftRules" "I" : Cond) ∈ bgw := mt_4 7 rfl (by decide +kernel)
theorem mb_729 : (.lays "PermitRulesModel" "PermitRulesModel" "draftClauses" "I" : Cond) ∈ bgw := mt_4 9 rfl (by decide +kernel)
theorem mb_731 : (.lays "PermitRulesModel" "PermitRulesModel" "draftSteps" "I" : Cond) ∈ bgw := mt_4 11 rfl (by decide +kernel)
theorem mb_733 : (.lays "PermitRulesModel" "PermitRulesModel" "rules" "I" : Cond) ∈ bgw := mt_4 13 rfl (by decide +kernel)
theorem mb_735 : (.lays "PermitRulesModel" "PermitRulesModel" "clauses" "I" : Cond) ∈ bgw := mt_4 15 rfl (by decide +kernel)
theorem mb_737 : (.laysFinal "PermitRulesModel" "PermitRulesModel" "open" "[I" : Cond) ∈ bgw := mt_4 17 rfl (by decide +kernel)
theorem mb_739 : (.lays "PermitRulesModel" "PermitRulesModel" "openSize" "I" : Cond) ∈ bgw := mt_4 19 rfl (by decide +kernel)
theorem mb_741 : (.lays "PermitRulesModel" "PermitRulesModel" "facts" "I" : Cond) ∈ bgw := mt_4 21 rfl (by decide +kernel)
theorem mb_743 : (.laysFinal "PermitRulesModel" "PermitRulesModel" "factNames" "[J" : Cond) ∈ bgw := mt_4 23 rfl (by decide +kernel)
theorem mb_745 : (.laysFinal "PermitRulesModel" "PermitRulesModel" "factValues" "[J" : Cond) ∈ bgw := mt_4 25 rfl (by decide +kernel)
theorem mb_747 : (.laysFinal "PermitRulesModel" "PermitRulesModel" "ups" "[J" : Cond) ∈ bgw := mt_4 27 rfl (by decide +kernel)
theorem mb_749 : (.laysFinal "PermitRulesModel" "PermitRulesModel" "downs" "[J" : Cond) ∈ bgw := mt_4 29 rfl (by decide +kernel)
theorem mb_751 : (.lays "PermitRulesModel" "PermitRulesModel" "pile" "I" : Cond) ∈ bgw := mt_4 31 rfl (by decide +kernel)
theorem mb_753 : (.lays "PermitRulesModel" "PermitRulesModel" "why" "I" : Cond) ∈ bgw := mt_4 33 rfl (by decide +kernel)
theorem mb_755 : (.lays "PermitRulesModel" "PermitRulesModel" "missing" "J" : Cond) ∈ bgw := mt_4 35 rfl (by decide +kernel)
theorem mb_757 : (.lays "PermitRulesModel" "PermitRulesModel" "asked" "Z" : Cond) ∈ bgw := mt_4 37 rfl (by decide +kernel)
theorem mb_759 : (.lays "PermitRulesModel" "PermitRulesModel" "day" "I" : Cond) ∈ bgw := mt_4 39 rfl (by decide +kernel)
theorem mb_761 : (.laysFinal "PermitRulesModel" "PermitRulesModel" "states" "[I" : Cond) ∈ bgw := mt_4 41 rfl (by decide +kernel)
theorem mb_763 : (.laysFinal "PermitRulesModel" "PermitRulesModel" "results" "[J" : Cond) ∈ bgw := mt_4 43 rfl (by decide +kernel)
theorem mb_765 : (.lays "PermitRulesModel" "PermitRulesModel" "leftUp" "J" : Cond) ∈ bgw := mt_4 45 rfl (by decide +kernel)
theorem mb_767 : (.lays "PermitRulesModel" "PermitRulesModel" "leftDown" "J" : Cond) ∈ bgw := mt_4 47 rfl (by decide +kernel)
theorem mb_769 : (.lays "PermitRulesModel" "PermitRulesModel" "rightUp" "J" : Cond) ∈ bgw := mt_4 49 rfl (by decide +kernel)
theorem mb_771 : (.lays "PermitRulesModel" "PermitRulesModel" "rightDown" "J" : Cond) ∈ bgw := mt_4 51 rfl (by decide +kernel)
theorem mb_774 : (.methodLink "PermitRulesLaw" 61 (⟨"PermitRulesModel", "thrown", "()I"⟩ : MethodName) : Cond) ∈ bgw := mt_4 54 rfl (by decide +kernel)
theorem mb_775 : (.instanceMethod (⟨"PermitRulesModel", "thrown", "()I"⟩ : MethodName) : Cond) ∈ bgw := mt_4 55 rfl (by decide +kernel)
theorem mb_776 : (.selects "PermitRulesModel" (⟨"PermitRulesModel", "thrown", "()I"⟩ : MethodName) (⟨"PermitRulesModel", "thrown", "()I"⟩ : MethodName) : Cond) ∈ bgw := mt_4 56 rfl (by decide +kernel)
theorem mb_777 : (.code (⟨"PermitRulesModel", "thrown", "()I"⟩ : MethodName) prog_10_method_2_code 1 (some .int) : Cond) ∈ bgw := mt_4 57 rfl (by decide +kernel)
theorem mb_778 : (.methodLink "PermitRulesLaw" 60 (⟨"PermitRulesModel", "say", "(J)I"⟩ : MethodName) : Cond) ∈ bgw := mt_4 58 rfl (by decide +kernel)
theorem mb_779 : (.instanceMethod (⟨"PermitRulesModel", "say", "(J)I"⟩ : MethodName) : Cond) ∈ bgw := mt_4 59 rfl (by decide +kernel)
theorem mb_780 : (.selects "PermitRulesModel" (⟨"PermitRulesModel", "say", "(J)I"⟩ : MethodName) (⟨"PermitRulesModel", "say", "(J)I"⟩ : MethodName) : Cond) ∈ bgw := mt_4 60 rfl (by decide +kernel)
set_option maxRecDepth 20000 in
theorem mb_781 : (.code (⟨"PermitRulesModel", "say", "(J)I"⟩ : MethodName) prog_10_method_4_code 6 (some .int) : Cond) ∈ bgw := mt_4 61 rfl (by decide +kernel)
set_option maxRecDepth 20000 in
theorem mb_782 : (.constantLong "PermitRulesModel" 66 255 : Cond) ∈ bgw := mt_4 62 rfl (by decide +kernel)
set_option maxRecDepth 20000 in
theorem mb_783 : (.constantLong "PermitRulesModel" 68 32 : Cond) ∈ bgw := mt_4 63 rfl (by decide +kernel)
set_option maxRecDepth 20000 in
theorem mb_784 : (.constantLong "PermitRulesModel" 70 126 : Cond) ∈ bgw := mt_4 64 rfl (by decide +kernel)
set_option maxRecDepth 20000 in
theorem mb_785 : (.methodLink "PermitRulesModel" 72 (⟨"PermitRulesModel", "in", "(JJJ)Z"⟩ : MethodName) : Cond) ∈ bgw := mt_4 65 rfl (by decide +kernel)
set_option maxRecDepth 20000 in
theorem mb_786 : (.static (⟨"PermitRulesModel", "in", "(JJJ)Z"⟩ : MethodName) : Cond) ∈ bgw := mt_4 66 rfl (by decide +kernel)
set_option maxRecDepth 20000 in
theorem mb_787 : (.code (⟨"PermitRulesModel", "in", "(JJJ)Z"⟩ : MethodName) prog_10_method_3_code 6 (some .boolean) : Cond) ∈ bgw := mt_4 67 rfl (by decide +kernel)
set_option maxRecDepth 20000 in
theorem mb_788 : (.methodLink "PermitRulesLaw" 68 (⟨"PermitRulesModel", "trim", "(I)I"⟩ : MethodName) : Cond) ∈ bgw := mt_4 68 rfl (by decide +kernel)
set_option maxRecDepth 20000 in
theorem mb_789 : (.instanceMethod (⟨"PermitRulesModel", "trim", "(I)I"⟩ : MethodName) : Cond) ∈ bgw := mt_4 69 rfl (by decide +kernel)
set_option maxRecDepth 20000 in
theorem mb_790 : (.selects "PermitRulesModel" (⟨"PermitRulesModel", "trim", "(I)I"⟩ : MethodName) (⟨"PermitRulesModel", "trim", "(I)I"⟩ : MethodName) : Cond) ∈ bgw := mt_4 70 rfl (by decide +kernel)
set_option maxRecDepth 20000 in
theorem mb_791 : (.code (⟨"PermitRulesModel", "trim", "(I)I"⟩ : MethodName) prog_10_method_5_code 2 (some .int) : Cond) ∈ bgw := mt_4 71 rfl (by decide +kernel)
set_option maxRecDepth 20000 in
theorem mb_792 : (.methodLink "PermitRulesLaw" 72 (⟨"PermitRulesModel", "read", "()I"⟩ : MethodName) : Cond) ∈ bgw := mt_4 72 rfl (by decide +kernel)
set_option maxRecDepth 20000 in
theorem mb_793 : (.instanceMethod (⟨"PermitRulesModel", "read", "()I"⟩ : MethodName) : Cond) ∈ bgw := mt_4 73 rfl (by decide +kernel)
set_option maxRecDepth 20000 in
theorem mb_794 : (.selects "PermitRulesModel" (⟨"PermitRulesModel", "read", "()I"⟩ : MethodName) (⟨"PermitRulesModel", "read", "()I"⟩ : MethodName) : Cond) ∈ bgw := mt_4 74 rfl (by decide +kernel)
set_option maxRecDepth 20000 in
theorem mb_795 : (.code (⟨"PermitRulesModel", "read", "()I"⟩ : MethodName) prog_10_method_17_code 8 (some .int) : Cond) ∈ bgw := mt_4 75 rfl (by decide +kernel)
set_option maxRecDepth 20000 in
theorem mb_796 : (.methodLink "PermitRulesModel" 140 (⟨"PermitRulesModel", "next", "()V"⟩ : MethodName) : Cond) ∈ bgw := mt_4 76 rfl (by decide +kernel)
set_option maxRecDepth 20000 in
theorem mb_798 : (.instanceMethod (⟨"PermitRulesModel", "next", "()V"⟩ : MethodName) : Cond) ∈ bgw := mt_4 78 rfl (by decide +kernel)
set_option maxRecDepth 20000 in
theorem mb_799 : (.code (⟨"PermitRulesModel", "next", "()V"⟩ : MethodName) prog_10_method_10_code 3 none : Cond) ∈ bgw := mt_4 79 rfl (by decide +kernel)
set_option maxRecDepth 20000 in
theorem mb_800 : (.methodLink "PermitRulesModel" 79 (⟨"PermitRulesModel", "character", "(I)I"⟩ : MethodName) : Cond) ∈ bgw := mt_4 80 rfl (by decide +kernel)
set_option maxRecDepth 20000 in
theorem mb_802 : (.instanceMethod (⟨"PermitRulesModel", "character", "(I)I"⟩ : MethodName) : Cond) ∈ bgw := mt_4 82 rfl (by decide +kernel)
set_option maxRecDepth 20000 in
theorem mb_803 : (.code (⟨"PermitRulesModel", "character", "(I)I"⟩ : MethodName) prog_10_method_6_code 2 (some .int) : Cond) ∈ bgw := mt_4 83 rfl (by decide +kernel)
set_option maxRecDepth 20000 in
theorem mb_804 : (.methodLink "PermitRulesModel" 107 (⟨"PermitRulesModel", "isDigit", "(I)Z"⟩ : MethodName) : Cond) ∈ bgw := mt_4 84 rfl (by decide +kernel)
set_option maxRecDepth 20000 in
theorem mb_806 : (.instanceMethod (⟨"PermitRulesModel", "isDigit", "(I)Z"⟩ : MethodName) : Cond) ∈ bgw := mt_4 86 rfl (by decide +kernel)
set_option maxRecDepth 20000 in
theorem mb_807 : (.code (⟨"PermitRulesModel", "isDigit", "(I)Z"⟩ : MethodName) prog_10_method_7_code 2 (some .boolean) : Cond) ∈ bgw := mt_4 87 rfl (by decide +kernel)
set_option maxRecDepth 20000 in
theorem mb_808 : (.constantLong "PermitRulesModel" 83 48 : Cond) ∈ bgw := mt_4 88 rfl (by decide +kernel)
set_option maxRecDepth 20000 in
theorem mb_809 : (.constantLong "PermitRulesModel" 85 57 : Cond) ∈ bgw := mt_4 89 rfl (by decide +kernel)
set_option maxRecDepth 20000 in
theorem mb_810 : (.constantLong "PermitRulesModel" 111 10 : Cond) ∈ bgw := mt_4 90 rfl (by decide +kernel)
set_option maxRecDepth 20000 in
theorem mb_811 : (.methodLink "PermitRulesModel" 113 (⟨"PermitRulesModel", "isLetter", "(I)Z"⟩ : MethodName) : Cond) ∈ bgw := mt_4 91 rfl (by decide +kernel)
set_option maxRecDepth 20000 in
theorem mb_813 : (.instanceMethod (⟨"PermitRulesModel", "isLetter", "(I)Z"⟩ : MethodName) : Cond) ∈ bgw := mt_4 93 rfl (by decide +kernel)
set_option maxRecDepth 20000 in
theorem mb_814 : (.code (⟨"PermitRulesModel", "isLetter", "(I)Z"⟩ : MethodName) prog_10_method_8_code 2 (some .boolean) : Cond) ∈ bgw := mt_4 94 rfl (by decide +kernel)
set_option maxRecDepth 20000 in
theorem mb_815 : (.constantLong "PermitRulesModel" 87 97 : Cond) ∈ bgw := mt_4 95 rfl (by decide +kernel)
set_option maxRecDepth 20000 in
theorem mb_816 : (.constantLong "PermitRulesModel" 89 122 : Cond) ∈ bgw := mt_4 96 rfl (by decide +kernel)
set_option maxRecDepth 20000 in
theorem mb_817 : (.constantLong "PermitRulesModel" 116 256 : Cond) ∈ bgw := mt_4 97 rfl (by decide +kernel)
set_option maxRecDepth 20000 in
theorem mb_818 : (.methodLink "PermitRulesModel" 118 (⟨"PermitRulesModel", "isSign", "(I)Z"⟩ : MethodName) : Cond) ∈ bgw := mt_4 98 rfl (by decide +kernel)
set_option maxRecDepth 20000 in
theorem mb_819 : (.static (⟨"PermitRulesModel", "isSign", "(I)Z"⟩ : MethodName) : Cond) ∈ bgw := mt_4 99 rfl (by decide +kernel)
set_option maxRecDepth 20000 in
theorem mb_820 : (.code (⟨"PermitRulesModel", "isSign", "(I)Z"⟩ : MethodName) prog_10_method_9_code 1 (some .boolean) : Cond) ∈ bgw := mt_4 100 rfl (by decide +kernel)
set_option maxRecDepth 20000 in
theorem mb_821 : (.methodLink "PermitRulesModel" 143 (⟨"PermitRulesModel", "isTaken", "(J)Z"⟩ : MethodName) : Cond) ∈ bgw := mt_4 101 rfl (by decide +kernel)
set_option maxRecDepth 20000 in
theorem mb_823 : (.instanceMethod (⟨"PermitRulesModel", "isTaken", "(J)Z"⟩ : MethodName) : Cond) ∈ bgw := mt_4 103 rfl (by decide +kernel)
set_option maxRecDepth 20000 in
theorem mb_824 : (.code (⟨"PermitRulesModel", "isTaken", "(J)Z"⟩ : MethodName) prog_10_method_16_code 5 (some .boolean) : Cond) ∈ bgw := mt_4 104 rfl (by decide +kernel)
set_option maxRecDepth 20000 in
theorem mb_825 : (.methodLink "PermitRulesModel" 147 (⟨"PermitRulesModel", "push", "(I)V"⟩ : MethodName) : Cond) ∈ bgw := mt_4 105 rfl (by decide +kernel)
set_option maxRecDepth 20000 in
theorem mb_827 : (.instanceMethod (⟨"PermitRulesModel", "push", "(I)V"⟩ : MethodName) : Cond) ∈ bgw := mt_4 107 rfl (by decide +kernel)
set_option maxRecDepth 20000 in
theorem mb_828 : (.code (⟨"PermitRulesModel", "push", "(I)V"⟩ : MethodName) prog_10_method_15_code 2 none : Cond) ∈ bgw := mt_4 108 rfl (by decide +kernel)
set_option maxRecDepth 20000 in
theorem mb_829 : (.methodLink "PermitRulesModel" 130 (⟨"PermitRulesModel", "step", "(IJ)V"⟩ : MethodName) : Cond) ∈ bgw := mt_4 109 rfl (by decide +kernel)
set_option maxRecDepth 20000 in
theorem mb_831 : (.instanceMethod (⟨"PermitRulesModel", "step", "(IJ)V"⟩ : MethodName) : Cond) ∈ bgw := mt_4 111 rfl (by decide +kernel)
set_option maxRecDepth 20000 in
theorem mb_832 : (.code (⟨"PermitRulesModel", "step", "(IJ)V"⟩ : MethodName) prog_10_method_12_code 4 none : Cond) ∈ bgw := mt_4 112 rfl (by decide +kernel)
set_option maxRecDepth 20000 in
theorem mb_833 : (.methodLink "PermitRulesModel" 151 (⟨"PermitRulesModel", "reduce", "(I)V"⟩ : MethodName) : Cond) ∈ bgw := mt_4 113 rfl (by decide +kernel)
set_option maxRecDepth 20000 in
theorem mb_835 : (.instanceMethod (⟨"PermitRulesModel", "reduce", "(I)V"⟩ : MethodName) : Cond) ∈ bgw := mt_4 115 rfl (by decide +kernel)
set_option maxRecDepth 20000 in
theorem mb_836 : (.code (⟨"PermitRulesModel", "reduce", "(I)V"⟩ : MethodName) prog_10_method_14_code 2 none : Cond) ∈ bgw := mt_4 116 rfl (by decide +kernel)
set_option maxRecDepth 20000 in
theorem mb_837 : (.methodLink "PermitRulesModel" 127 (⟨"PermitRulesModel", "rank", "(I)I"⟩ : MethodName) : Cond) ∈ bgw := mt_4 117 rfl (by decide +kernel)
set_option maxRecDepth 20000 in
theorem mb_838 : (.static (⟨"PermitRulesModel", "rank", "(I)I"⟩ : MethodName) : Cond) ∈ bgw := mt_4 118 rfl (by decide +kernel)
set_option maxRecDepth 20000 in
theorem mb_839 : (.code (⟨"PermitRulesModel", "rank", "(I)I"⟩ : MethodName) prog_10_method_13_code 1 (some .int) : Cond) ∈ bgw := mt_4 119 rfl (by decide +kernel)
set_option maxRecDepth 20000 in
theorem mb_840 : (.methodLink "PermitRulesModel" 154 (⟨"PermitRulesModel", "compares", "(I)Z"⟩ : MethodName) : Cond) ∈ bgw := mt_4 120 rfl (by decide +kernel)
set_option maxRecDepth 20000 in
theorem mb_841 : (.static (⟨"PermitRulesModel", "compares", "(I)Z"⟩ : MethodName) : Cond) ∈ bgw := mt_4 121 rfl (by decide +kernel)
set_option maxRecDepth 20000 in
theorem mb_842 : (.code (⟨"PermitRulesModel", "compares", "(I)Z"⟩ : MethodName) prog_10_method_11_code 1 (some .boolean) : Cond) ∈ bgw := mt_4 122 rfl (by decide +kernel)
set_option maxRecDepth 20000 in
theorem mb_843 : (.methodLink "PermitRulesModel" 157 (⟨"PermitRulesModel", "take", "()V"⟩ : MethodName) : Cond) ∈ bgw := mt_4 123 rfl (by decide +kernel)
set_option maxRecDepth 20000 in
theorem mb_845 : (.instanceMethod (⟨"PermitRulesModel", "take", "()V"⟩ : MethodName) : Cond) ∈ bgw := mt_4 125 rfl (by decide +kernel)
set_option maxRecDepth 20000 in
theorem mb_846 : (.code (⟨"PermitRulesModel", "take", "()V"⟩ : MethodName) prog_10_method_18_code 2 none : Cond) ∈ bgw := mt_4 126 rfl (by decide +kernel)
set_option maxRecDepth 20000 in
theorem mb_847 : (.methodLink "PermitRulesLaw" 76 (⟨"PermitRulesModel", "fact", "(JI)J"⟩ : MethodName) : Cond) ∈ bgw := mt_4 127 rfl (by decide +kernel)
set_option maxRecDepth 20000 in
theorem mb_848 : (.instanceMethod (⟨"PermitRulesModel", "fact", "(JI)J"⟩ : MethodName) : Cond) ∈ bgw := mt_4 128 rfl (by decide +kernel)
set_option maxRecDepth 20000 in
theorem mb_849 : (.selects "PermitRulesModel" (⟨"PermitRulesModel", "fact", "(JI)J"⟩ : MethodName) (⟨"PermitRulesModel", "fact", "(JI)J"⟩ : MethodName) : Cond) ∈ bgw := mt_4 129 rfl (by decide +kernel)
set_option maxRecDepth 20000 in
theorem mb_850 : (.code (⟨"PermitRulesModel", "fact", "(JI)J"⟩ : MethodName) prog_10_method_21_code 7 (some .long) : Cond) ∈ bgw := mt_4 130 rfl (by decide +kernel)
set_option maxRecDepth 20000 in
theorem mb_851 : (.methodLink "PermitRulesModel" 173 (⟨"PermitRulesModel", "factOf", "(J)I"⟩ : MethodName) : Cond) ∈ bgw := mt_4 131 rfl (by decide +kernel)
set_option maxRecDepth 20000 in
theorem mb_853 : (.instanceMethod (⟨"PermitRulesModel", "factOf", "(J)I"⟩ : MethodName) : Cond) ∈ bgw := mt_4 133 rfl (by decide +kernel)
set_option maxRecDepth 20000 in
theorem mb_854 : (.code (⟨"PermitRulesModel", "factOf", "(J)I"⟩ : MethodName) prog_10_method_20_code 5 (some .int) : Cond) ∈ bgw := mt_4 134 rfl (by decide +kernel)
set_option maxRecDepth 20000 in
theorem mb_855 : (.methodLink "PermitRulesModel" 177 (⟨"PermitRulesModel", "isName", "(J)Z"⟩ : MethodName) : Cond) ∈ bgw := mt_4 135 rfl (by decide +kernel)
set_option maxRecDepth 20000 in
theorem mb_856 : (.static (⟨"PermitRulesModel", "isName", "(J)Z"⟩ : MethodName) : Cond) ∈ bgw := mt_4 136 rfl (by decide +kernel)
set_option maxRecDepth 20000 in
theorem mb_857 : (.code (⟨"PermitRulesModel", "isName", "(J)Z"⟩ : MethodName) prog_10_method_19_code 5 (some .boolean) : Cond) ∈ bgw := mt_4 137 rfl (by decide +kernel)
set_option maxRecDepth 20000 in
theorem mb_858 : (.constantLong "PermitRulesModel" 180 (-1000000000) : Cond) ∈ bgw := mt_4 138 rfl (by decide +kernel)
set_option maxRecDepth 20000 in
theorem mb_859 : (.constantLong "PermitRulesModel" 182 1000000000 : Cond) ∈ bgw := mt_4 139 rfl (by decide +kernel)
set_option maxRecDepth 20000 in
theorem mb_860 : (.constantLong "PermitRulesModel" 184 1000000000000 : Cond) ∈ bgw := mt_4 140 rfl (by decide +kernel)
set_option maxRecDepth 20000 in
theorem mb_861 : (.methodLink "PermitRulesLaw" 79 (⟨"PermitRulesModel", "forget", "(J)J"⟩ : MethodName) : Cond) ∈ bgw := mt_4 141 rfl (by decide +kernel)
set_option maxRecDepth 20000 in
theorem mb_862 : (.instanceMethod (⟨"PermitRulesModel", "forget", "(J)J"⟩ : MethodName) : Cond) ∈ bgw := mt_4 142 rfl (by decide +kernel)
set_option maxRecDepth 20000 in
theorem mb_863 : (.selects "PermitRulesModel" (⟨"PermitRulesModel", "forget", "(J)J"⟩ : MethodName) (⟨"PermitRulesModel", "forget", "(J)J"⟩ : MethodName) : Cond) ∈ bgw := mt_4 143 rfl (by decide +kernel)
set_option maxRecDepth 20000 in
theorem mb_864 : (.code (⟨"PermitRulesModel", "forget", "(J)J"⟩ : MethodName) prog_10_method_22_code 6 (some .long) : Cond) ∈ bgw := mt_4 144 rfl (by decide +kernel)
set_option maxRecDepth 20000 in
theorem mb_865 : (.methodLink "PermitRulesLaw" 82 (⟨"PermitRulesModel", "run", "(I)I"⟩ : MethodName) : Cond) ∈ bgw := mt_4 145 rfl (by decide +kernel)
set_option maxRecDepth 20000 in
theorem mb_866 : (.instanceMethod (⟨"PermitRulesModel", "run", "(I)I"⟩ : MethodName) : Cond) ∈ bgw := mt_4 146 rfl (by decide +kernel)
set_option maxRecDepth 20000 in
theorem mb_867 : (.selects "PermitRulesModel" (⟨"PermitRulesModel", "run", "(I)I"⟩ : MethodName) (⟨"PermitRulesModel", "run", "(I)I"⟩ : MethodName) : Cond) ∈ bgw := mt_4 147 rfl (by decide +kernel)
set_option maxRecDepth 20000 in
theorem mb_868 : (.code (⟨"PermitRulesModel", "run", "(I)I"⟩ : MethodName) prog_10_method_33_code 4 (some .int) : Cond) ∈ bgw := mt_4 148 rfl (by decide +kernel)
set_option maxRecDepth 20000 in
theorem mb_869 : (.constantLong "PermitRulesModel" 241 1000000 : Cond) ∈ bgw := mt_4 149 rfl (by decide +kernel)
set_option maxRecDepth 20000 in
theorem mb_870 : (.methodLink "PermitRulesModel" 246 (⟨"PermitRulesModel", "stateOf", "(IIZ)I"⟩ : MethodName) : Cond) ∈ bgw := mt_4 150 rfl (by decide +kernel)
set_option maxRecDepth 20000 in
theorem mb_872 : (.instanceMethod (⟨"PermitRulesModel", "stateOf", "(IIZ)I"⟩ : MethodName) : Cond) ∈ bgw := mt_4 152 rfl (by decide +kernel)
set_option maxRecDepth 20000 in
theorem mb_873 : (.code (⟨"PermitRulesModel", "stateOf", "(IIZ)I"⟩ : MethodName) prog_10_method_31_code 9 (some .int) : Cond) ∈ bgw := mt_4 153 rfl (by decide +kernel)
set_option maxRecDepth 20000 in
theorem mb_874 : (.methodLink "PermitRulesModel" 235 (⟨"PermitRulesModel", "holds", "(I)Z"⟩ : MethodName) : Cond) ∈ bgw := mt_4 154 rfl (by decide +kernel)
set_option maxRecDepth 20000 in
theorem mb_876 : (.instanceMethod (⟨"PermitRulesModel", "holds", "(I)Z"⟩ : MethodName) : Cond) ∈ bgw := mt_4 156 rfl (by decide +kernel)
set_option maxRecDepth 20000 in
theorem mb_877 : (.code (⟨"PermitRulesModel", "holds", "(I)Z"⟩ : MethodName) prog_10_method_30_code 7 (some .boolean) : Cond) ∈ bgw := mt_4 157 rfl (by decide +kernel)
set_option maxRecDepth 20000 in
theorem mb_878 : (.methodLink "PermitRulesModel" 231 (⟨"PermitRulesModel", "reckon", "(II)V"⟩ : MethodName) : Cond) ∈ bgw := mt_4 158 rfl (by decide +kernel)
set_option maxRecDepth 20000 in
theorem mb_880 : (.instanceMethod (⟨"PermitRulesModel", "reckon", "(II)V"⟩ : MethodName) : Cond) ∈ bgw := mt_4 160 rfl (by decide +kernel)
set_option maxRecDepth 20000 in
theorem mb_881 : (.code (⟨"PermitRulesModel", "reckon", "(II)V"⟩ : MethodName) prog_10_method_29_code 6 none : Cond) ∈ bgw := mt_4 161 rfl (by decide +kernel)
set_option maxRecDepth 20000 in
theorem mb_882 : (.methodLink "PermitRulesModel" 209 (⟨"PermitRulesModel", "give", "(JJ)V"⟩ : MethodName) : Cond) ∈ bgw := mt_4 162 rfl (by decide +kernel)
set_option maxRecDepth 20000 in
theorem mb_884 : (.instanceMethod (⟨"PermitRulesModel", "give", "(JJ)V"⟩ : MethodName) : Cond) ∈ bgw := mt_4 164 rfl (by decide +kernel)
set_option maxRecDepth 20000 in
theorem mb_885 : (.code (⟨"PermitRulesModel", "give", "(JJ)V"⟩ : MethodName) prog_10_method_27_code 13 none : Cond) ∈ bgw := mt_4 165 rfl (by decide +kernel)
set_option maxRecDepth 20000 in
theorem mb_886 : (.constantLong "PermitRulesModel" 191 (-9223372036854775808) : Cond) ∈ bgw := mt_4 166 rfl (by decide +kernel)
set_option maxRecDepth 20000 in
theorem mb_887 : (.methodLink "PermitRulesModel" 196 (⟨"PermitRulesModel", "less", "(JJ)J"⟩ : MethodName) : Cond) ∈ bgw := mt_4 167 rfl (by decide +kernel)
set_option maxRecDepth 20000 in
theorem mb_889 : (.instanceMethod (⟨"PermitRulesModel", "less", "(JJ)J"⟩ : MethodName) : Cond) ∈ bgw := mt_4 169 rfl (by decide +kernel)
set_option maxRecDepth 20000 in
theorem mb_890 : (.code (⟨"PermitRulesModel", "less", "(JJ)J"⟩ : MethodName) prog_10_method_26_code 7 (some .long) : Cond) ∈ bgw := mt_4 170 rfl (by decide +kernel)
set_option maxRecDepth 20000 in
theorem mb_891 : (.methodLink "PermitRulesModel" 193 (⟨"PermitRulesModel", "stop", "(I)V"⟩ : MethodName) : Cond) ∈ bgw := mt_4 171 rfl (by decide +kernel)
set_option maxRecDepth 20000 in
theorem mb_893 : (.instanceMethod (⟨"PermitRulesModel", "stop", "(I)V"⟩ : MethodName) : Cond) ∈ bgw := mt_4 173 rfl (by decide +kernel)
set_option maxRecDepth 20000 in
theorem mb_894 : (.code (⟨"PermitRulesModel", "stop", "(I)V"⟩ : MethodName) prog_10_method_23_code 2 none : Cond) ∈ bgw := mt_4 174 rfl (by decide +kernel)
set_option maxRecDepth 20000 in
theorem mb_895 : (.methodLink "PermitRulesModel" 216 (⟨"PermitRulesModel", "operate", "(I)V"⟩ : MethodName) : Cond) ∈ bgw := mt_4 175 rfl (by decide +kernel)
set_option maxRecDepth 20000 in
theorem mb_897 : (.instanceMethod (⟨"PermitRulesModel", "operate", "(I)V"⟩ : MethodName) : Cond) ∈ bgw := mt_4 177 rfl (by decide +kernel)
set_option maxRecDepth 20000 in
theorem mb_898 : (.code (⟨"PermitRulesModel", "operate", "(I)V"⟩ : MethodName) prog_10_method_28_code 10 none : Cond) ∈ bgw := mt_4 178 rfl (by decide +kernel)
set_option maxRecDepth 20000 in
theorem mb_899 : (.methodLink "PermitRulesModel" 203 (⟨"PermitRulesModel", "times", "(JJ)J"⟩ : MethodName) : Cond) ∈ bgw := mt_4 179 rfl (by decide +kernel)
set_option maxRecDepth 20000 in
theorem mb_901 : (.instanceMethod (⟨"PermitRulesModel", "times", "(JJ)J"⟩ : MethodName) : Cond) ∈ bgw := mt_4 181 rfl (by decide +kernel)
set_option maxRecDepth 20000 in
theorem mb_902 : (.code (⟨"PermitRulesModel", "times", "(JJ)J"⟩ : MethodName) prog_10_method_24_code 8 (some .long) : Cond) ∈ bgw := mt_4 182 rfl (by decide +kernel)
set_option maxRecDepth 20000 in
theorem mb_903 : (.constantLong "PermitRulesModel" 189 (-1) : Cond) ∈ bgw := mt_4 183 rfl (by decide +kernel)
set_option maxRecDepth 20000 in
theorem mb_904 : (.methodLink "PermitRulesModel" 206 (⟨"PermitRulesModel", "plus", "(JJ)J"⟩ : MethodName) : Cond) ∈ bgw := mt_4 184 rfl (by decide +kernel)
set_option maxRecDepth 20000 in
theorem mb_906 : (.instanceMethod (⟨"PermitRulesModel", "plus", "(JJ)J"⟩ : MethodName) : Cond) ∈ bgw := mt_4 186 rfl (by decide +kernel)
set_option maxRecDepth 20000 in
theorem mb_907 : (.code (⟨"PermitRulesModel", "plus", "(JJ)J"⟩ : MethodName) prog_10_method_25_code 7 (some .long) : Cond) ∈ bgw := mt_4 187 rfl (by decide +kernel)
set_option maxRecDepth 20000 in
theorem mb_908 : (.methodLink "PermitRulesModel" 238 (⟨"PermitRulesModel", "keep", "(I)V"⟩ : MethodName) : Cond) ∈ bgw := mt_4 188 rfl (by decide +kernel)
set_option maxRecDepth 20000 in
theorem mb_910 : (.instanceMethod (⟨"PermitRulesModel", "keep", "(I)V"⟩ : MethodName) : Cond) ∈ bgw := mt_4 190 rfl (by decide +kernel)
set_option maxRecDepth 20000 in
theorem mb_911 : (.code (⟨"PermitRulesModel", "keep", "(I)V"⟩ : MethodName) prog_10_method_32_code 2 none : Cond) ∈ bgw := mt_4 191 rfl (by decide +kernel)
set_option maxRecDepth 20000 in
theorem mb_912 : (.methodLink "PermitRulesLaw" 85 (⟨"PermitRulesModel", "rule", "(J)I"⟩ : MethodName) : Cond) ∈ bgw := mt_4 192 rfl (by decide +kernel)
set_option maxRecDepth 20000 in
theorem mb_913 : (.instanceMethod (⟨"PermitRulesModel", "rule", "(J)I"⟩ : MethodName) : Cond) ∈ bgw := mt_4 193 rfl (by decide +kernel)
set_option maxRecDepth 20000 in
theorem mb_914 : (.selects "PermitRulesModel" (⟨"PermitRulesModel", "rule", "(J)I"⟩ : MethodName) (⟨"PermitRulesModel", "rule", "(J)I"⟩ : MethodName) : Cond) ∈ bgw := mt_4 194 rfl (by decide +kernel)
set_option maxRecDepth 20000 in
theorem mb_915 : (.code (⟨"PermitRulesModel", "rule", "(J)I"⟩ : MethodName) prog_10_method_34_code 5 (some .int) : Cond) ∈ bgw := mt_4 195 rfl (by decide +kernel)
set_option maxRecDepth 20000 in
theorem mb_916 : (.methodLink "PermitRulesLaw" 89 (⟨"PermitRulesModel", "told", "(II)J"⟩ : MethodName) : Cond) ∈ bgw := mt_4 196 rfl (by decide +kernel)
set_option maxRecDepth 20000 in
theorem mb_917 : (.instanceMethod (⟨"PermitRulesModel", "told", "(II)J"⟩ : MethodName) : Cond) ∈ bgw := mt_4 197 rfl (by decide +kernel)
set_option maxRecDepth 20000 in
theorem mb_918 : (.selects "PermitRulesModel" (⟨"PermitRulesModel", "told", "(II)J"⟩ : MethodName) (⟨"PermitRulesModel", "told", "(II)J"⟩ : MethodName) : Cond) ∈ bgw := mt_4 198 rfl (by decide +kernel)
set_option maxRecDepth 20000 in
theorem mb_919 : (.code (⟨"PermitRulesModel", "told", "(II)J"⟩ : MethodName) prog_10_method_35_code 3 (some .long) : Cond) ∈ bgw := mt_4 199 rfl (by decide +kernel)
set_option maxRecDepth 20000 in
theorem mb_920 : (.constantLong "PermitRulesModel" 250 6 : Cond) ∈ bgw := mt_4 200 rfl (by decide +kernel)
set_option maxRecDepth 20000 in
theorem mb_921 : (.methodLink "PermitRulesLaw" 92 (⟨"PermitRulesModel", "broken", "(I)I"⟩ : MethodName) : Cond) ∈ bgw := mt_4 201 rfl (by decide +kernel)
set_option maxRecDepth 20000 in
theorem mb_922 : (.instanceMethod (⟨"PermitRulesModel", "broken", "(I)I"⟩ : MethodName) : Cond) ∈ bgw := mt_4 202 rfl (by decide +kernel)
set_option maxRecDepth 20000 in
theorem mb_923 : (.selects "PermitRulesModel" (⟨"PermitRulesModel", "broken", "(I)I"⟩ : MethodName) (⟨"PermitRulesModel", "broken", "(I)I"⟩ : MethodName) : Cond) ∈ bgw := mt_4 203 rfl (by decide +kernel)
set_option maxRecDepth 20000 in
theorem mb_924 : (.code (⟨"PermitRulesModel", "broken", "(I)I"⟩ : MethodName) prog_10_method_36_code 4 (some .int) : Cond) ∈ bgw := mt_4 204 rfl (by decide +kernel)
set_option maxRecDepth 20000 in
theorem mb_925 : (.methodLink "PermitRulesLaw" 96 (⟨"PermitRulesModel", "suggest", "(IJI)J"⟩ : MethodName) : Cond) ∈ bgw := mt_4 205 rfl (by decide +kernel)
set_option maxRecDepth 20000 in
theorem mb_926 : (.instanceMethod (⟨"PermitRulesModel", "suggest", "(IJI)J"⟩ : MethodName) : Cond) ∈ bgw := mt_4 206 rfl (by decide +kernel)
set_option maxRecDepth 20000 in
theorem mb_927 : (.selects "PermitRulesModel" (⟨"PermitRulesModel", "suggest", "(IJI)J"⟩ : MethodName) (⟨"PermitRulesModel", "suggest", "(IJI)J"⟩ : MethodName) : Cond) ∈ bgw := mt_4 207 rfl (by decide +kernel)
set_option maxRecDepth 20000 in
theorem mb_928 : (.code (⟨"PermitRulesModel", "suggest", "(IJI)J"⟩ : MethodName) prog_10_method_37_code 15 (some .long) : Cond) ∈ bgw := mt_4 208 rfl (by decide +kernel)
set_option maxRecDepth 20000 in
theorem mb_929 : (.constantLong "PermitRulesModel" 252 8 : Cond) ∈ bgw := mt_4 209 rfl (by decide +kernel)
set_option maxRecDepth 20000 in
theorem mb_930 : (.methodLink "PermitRulesLaw" 99 (⟨"PermitRulesModel", "count", "(I)I"⟩ : MethodName) : Cond) ∈ bgw := mt_4 210 rfl (by decide +kernel)
set_option maxRecDepth 20000 in
theorem mb_931 : (.instanceMethod (⟨"PermitRulesModel", "count", "(I)I"⟩ : MethodName) : Cond) ∈ bgw := mt_4 211 rfl (by decide +kernel)
set_option maxRecDepth 20000 in
theorem mb_932 : (.selects "PermitRulesModel" (⟨"PermitRulesModel", "count", "(I)I"⟩ : MethodName) (⟨"PermitRulesModel", "count", "(I)I"⟩ : MethodName) : Cond) ∈ bgw := mt_4 212 rfl (by decide +kernel)
set_option maxRecDepth 20000 in
theorem mb_933 : (.code (⟨"PermitRulesModel", "count", "(I)I"⟩ : MethodName) prog_10_method_38_code 2 (some .int) : Cond) ∈ bgw := mt_4 213 rfl (by decide +kernel)
set_option maxRecDepth 20000 in
theorem mb_934 : (.constantLong "PermitRulesModel" 254 3 : Cond) ∈ bgw := mt_4 214 rfl (by decide +kernel)
set_option maxRecDepth 20000 in
theorem mb_935 : (.constantLong "PermitRulesLaw" 53 4294967295 : Cond) ∈ bgw := mt_4 215 rfl (by decide +kernel)
theorem mp_0 : (.selects "PermitRules$Reader" (⟨"PermitRules$Reader", "takesRule", "(LPermitRules$Book;)Z"⟩ : MethodName) (⟨"PermitRules$Reader", "takesRule", "(LPermitRules$Book;)Z"⟩ : MethodName) : Cond) ∈ bgw := mbx 0 (by decide +kernel) (by decide +kernel)
theorem mp_1 : (.selects "PermitRules$Reader" (⟨"PermitRules$Reader", "takesClause", "(LPermitRules$Book;)Z"⟩ : MethodName) (⟨"PermitRules$Reader", "takesClause", "(LPermitRules$Book;)Z"⟩ : MethodName) : Cond) ∈ bgw := mbx 1 (by decide +kernel) (by decide +kernel)
theorem mp_2 : (.selects "PermitRules$Reader" (⟨"PermitRules$Reader", "takesSide", "(LPermitRules$Book;I)Z"⟩ : MethodName) (⟨"PermitRules$Reader", "takesSide", "(LPermitRules$Book;I)Z"⟩ : MethodName) : Cond) ∈ bgw := mbx 2 (by decide +kernel) (by decide +kernel)
theorem mp_3 : (.selects "PermitRules$Reader" (⟨"PermitRules$Reader", "takesTerm", "(LPermitRules$Book;I)Z"⟩ : MethodName) (⟨"PermitRules$Reader", "takesTerm", "(LPermitRules$Book;I)Z"⟩ : MethodName) : Cond) ∈ bgw := mbx 3 (by decide +kernel) (by decide +kernel)
theorem mp_4 : (.selects "PermitRules$Reader" (⟨"PermitRules$Reader", "takesFactor", "(LPermitRules$Book;I)Z"⟩ : MethodName) (⟨"PermitRules$Reader", "takesFactor", "(LPermitRules$Book;I)Z"⟩ : MethodName) : Cond) ∈ bgw := mbx 4 (by decide +kernel) (by decide +kernel)
theorem mp_5 : (.selects "java/lang/Throwable" (⟨"java/lang/Throwable", "fillInStackTrace", "(I)Ljava/lang/Throwable;"⟩ : MethodName) (⟨"java/lang/Throwable", "fillInStackTrace", "(I)Ljava/lang/Throwable;"⟩ : MethodName) : Cond) ∈ bgw := mbx 5 (by decide +kernel) (by decide +kernel)
theorem mp_6 : (.selects "PermitRules$Judge" (⟨"PermitRules$Judge", "holds", "(LPermitRules$Book;LPermitRules$Facts;IZ)Z"⟩ : MethodName) (⟨"PermitRules$Judge", "holds", "(LPermitRules$Book;LPermitRules$Facts;IZ)Z"⟩ : MethodName) : Cond) ∈ bgw := mbx 6 (by decide +kernel) (by decide +kernel)
theorem mp_7 : (.selects "PermitRules$Reckoner" (⟨"PermitRules$Reckoner", "push", "(JJ)V"⟩ : MethodName) (⟨"PermitRules$Reckoner", "push", "(JJ)V"⟩ : MethodName) : Cond) ∈ bgw := mbx 7 (by decide +kernel) (by decide +kernel)
theorem mp_8 : (.selects "PermitRules$Reckoner" (⟨"PermitRules$Reckoner", "pushFact", "(LPermitRules$Facts;J)V"⟩ : MethodName) (⟨"PermitRules$Reckoner", "pushFact", "(LPermitRules$Facts;J)V"⟩ : MethodName) : Cond) ∈ bgw := mbx 8 (by decide +kernel) (by decide +kernel)
theorem mp_9 : (.selects "PermitRules$Reckoner" (⟨"PermitRules$Reckoner", "join", "(I)V"⟩ : MethodName) (⟨"PermitRules$Reckoner", "join", "(I)V"⟩ : MethodName) : Cond) ∈ bgw := mbx 9 (by decide +kernel) (by decide +kernel)
theorem mp_10 : (.selects "PermitRules$Reckoner" (⟨"PermitRules$Reckoner", "settle", "(JJ)V"⟩ : MethodName) (⟨"PermitRules$Reckoner", "settle", "(JJ)V"⟩ : MethodName) : Cond) ∈ bgw := mbx 10 (by decide +kernel) (by decide +kernel)
theorem mp_11 : (.selects "PermitRules$Reckoner" (⟨"PermitRules$Reckoner", "sum", "(JJ)J"⟩ : MethodName) (⟨"PermitRules$Reckoner", "sum", "(JJ)J"⟩ : MethodName) : Cond) ∈ bgw := mbx 11 (by decide +kernel) (by decide +kernel)
theorem mp_12 : (.selects "PermitRules$Reckoner" (⟨"PermitRules$Reckoner", "difference", "(JJ)J"⟩ : MethodName) (⟨"PermitRules$Reckoner", "difference", "(JJ)J"⟩ : MethodName) : Cond) ∈ bgw := mbx 12 (by decide +kernel) (by decide +kernel)
theorem mp_13 : (.selects "PermitRules" (⟨"PermitRules", "keepAnswers", "(I)V"⟩ : MethodName) (⟨"PermitRules", "keepAnswers", "(I)V"⟩ : MethodName) : Cond) ∈ bgw := mbx 13 (by decide +kernel) (by decide +kernel)
theorem mp_14 : (.selects "PermitRules" (⟨"PermitRules", "keepAnswer", "(IIJ)V"⟩ : MethodName) (⟨"PermitRules", "keepAnswer", "(IIJ)V"⟩ : MethodName) : Cond) ∈ bgw := mbx 14 (by decide +kernel) (by decide +kernel)
theorem mp_15 : (.selects "PermitRules" (⟨"PermitRules", "answerOf", "(II)J"⟩ : MethodName) (⟨"PermitRules", "answerOf", "(II)J"⟩ : MethodName) : Cond) ∈ bgw := mbx 15 (by decide +kernel) (by decide +kernel)
theorem mp_16 : (.selects "PermitRules" (⟨"PermitRules", "wouldDo", "(III)Z"⟩ : MethodName) (⟨"PermitRules", "wouldDo", "(III)Z"⟩ : MethodName) : Cond) ∈ bgw := mbx 16 (by decide +kernel) (by decide +kernel)
theorem mp_17 : (.selects "PermitRulesModel" (⟨"PermitRulesModel", "next", "()V"⟩ : MethodName) (⟨"PermitRulesModel", "next", "()V"⟩ : MethodName) : Cond) ∈ bgw := mbx 17 (by decide +kernel) (by decide +kernel)
theorem mp_18 : (.selects "PermitRulesModel" (⟨"PermitRulesModel", "character", "(I)I"⟩ : MethodName) (⟨"PermitRulesModel", "character", "(I)I"⟩ : MethodName) : Cond) ∈ bgw := mbx 18 (by decide +kernel) (by decide +kernel)
theorem mp_19 : (.selects "PermitRulesModel" (⟨"PermitRulesModel", "isDigit", "(I)Z"⟩ : MethodName) (⟨"PermitRulesModel", "isDigit", "(I)Z"⟩ : MethodName) : Cond) ∈ bgw := mbx 19 (by decide +kernel) (by decide +kernel)
theorem mp_20 : (.selects "PermitRulesModel" (⟨"PermitRulesModel", "isLetter", "(I)Z"⟩ : MethodName) (⟨"PermitRulesModel", "isLetter", "(I)Z"⟩ : MethodName) : Cond) ∈ bgw := mbx 20 (by decide +kernel) (by decide +kernel)
theorem mp_21 : (.selects "PermitRulesModel" (⟨"PermitRulesModel", "isTaken", "(J)Z"⟩ : MethodName) (⟨"PermitRulesModel", "isTaken", "(J)Z"⟩ : MethodName) : Cond) ∈ bgw := mbx 21 (by decide +kernel) (by decide +kernel)
theorem mp_22 : (.selects "PermitRulesModel" (⟨"PermitRulesModel", "push", "(I)V"⟩ : MethodName) (⟨"PermitRulesModel", "push", "(I)V"⟩ : MethodName) : Cond) ∈ bgw := mbx 22 (by decide +kernel) (by decide +kernel)
theorem mp_23 : (.selects "PermitRulesModel" (⟨"PermitRulesModel", "step", "(IJ)V"⟩ : MethodName) (⟨"PermitRulesModel", "step", "(IJ)V"⟩ : MethodName) : Cond) ∈ bgw := mbx 23 (by decide +kernel) (by decide +kernel)
theorem mp_24 : (.selects "PermitRulesModel" (⟨"PermitRulesModel", "reduce", "(I)V"⟩ : MethodName) (⟨"PermitRulesModel", "reduce", "(I)V"⟩ : MethodName) : Cond) ∈ bgw := mbx 24 (by decide +kernel) (by decide +kernel)
theorem mp_25 : (.selects "PermitRulesModel" (⟨"PermitRulesModel", "take", "()V"⟩ : MethodName) (⟨"PermitRulesModel", "take", "()V"⟩ : MethodName) : Cond) ∈ bgw := mbx 25 (by decide +kernel) (by decide +kernel)
theorem mp_26 : (.selects "PermitRulesModel" (⟨"PermitRulesModel", "factOf", "(J)I"⟩ : MethodName) (⟨"PermitRulesModel", "factOf", "(J)I"⟩ : MethodName) : Cond) ∈ bgw := mbx 26 (by decide +kernel) (by decide +kernel)
theorem mp_27 : (.selects "PermitRulesModel" (⟨"PermitRulesModel", "stateOf", "(IIZ)I"⟩ : MethodName) (⟨"PermitRulesModel", "stateOf", "(IIZ)I"⟩ : MethodName) : Cond) ∈ bgw := mbx 27 (by decide +kernel) (by decide +kernel)
theorem mp_28 : (.selects "PermitRulesModel" (⟨"PermitRulesModel", "holds", "(I)Z"⟩ : MethodName) (⟨"PermitRulesModel", "holds", "(I)Z"⟩ : MethodName) : Cond) ∈ bgw := mbx 28 (by decide +kernel) (by decide +kernel)
theorem mp_29 : (.selects "PermitRulesModel" (⟨"PermitRulesModel", "reckon", "(II)V"⟩ : MethodName) (⟨"PermitRulesModel", "reckon", "(II)V"⟩ : MethodName) : Cond) ∈ bgw := mbx 29 (by decide +kernel) (by decide +kernel)
theorem mp_30 : (.selects "PermitRulesModel" (⟨"PermitRulesModel", "give", "(JJ)V"⟩ : MethodName) (⟨"PermitRulesModel", "give", "(JJ)V"⟩ : MethodName) : Cond) ∈ bgw := mbx 30 (by decide +kernel) (by decide +kernel)
theorem mp_31 : (.selects "PermitRulesModel" (⟨"PermitRulesModel", "less", "(JJ)J"⟩ : MethodName) (⟨"PermitRulesModel", "less", "(JJ)J"⟩ : MethodName) : Cond) ∈ bgw := mbx 31 (by decide +kernel) (by decide +kernel)
theorem mp_32 : (.selects "PermitRulesModel" (⟨"PermitRulesModel", "stop", "(I)V"⟩ : MethodName) (⟨"PermitRulesModel", "stop", "(I)V"⟩ : MethodName) : Cond) ∈ bgw := mbx 32 (by decide +kernel) (by decide +kernel)
theorem mp_33 : (.selects "PermitRulesModel" (⟨"PermitRulesModel", "operate", "(I)V"⟩ : MethodName) (⟨"PermitRulesModel", "operate", "(I)V"⟩ : MethodName) : Cond) ∈ bgw := mbx 33 (by decide +kernel) (by decide +kernel)
theorem mp_34 : (.selects "PermitRulesModel" (⟨"PermitRulesModel", "times", "(JJ)J"⟩ : MethodName) (⟨"PermitRulesModel", "times", "(JJ)J"⟩ : MethodName) : Cond) ∈ bgw := mbx 34 (by decide +kernel) (by decide +kernel)
theorem mp_35 : (.selects "PermitRulesModel" (⟨"PermitRulesModel", "plus", "(JJ)J"⟩ : MethodName) (⟨"PermitRulesModel", "plus", "(JJ)J"⟩ : MethodName) : Cond) ∈ bgw := mbx 35 (by decide +kernel) (by decide +kernel)
theorem mp_36 : (.selects "PermitRulesModel" (⟨"PermitRulesModel", "keep", "(I)V"⟩ : MethodName) (⟨"PermitRulesModel", "keep", "(I)V"⟩ : MethodName) : Cond) ∈ bgw := mbx 36 (by decide +kernel) (by decide +kernel)
