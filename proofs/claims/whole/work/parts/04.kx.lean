def T_Book : u_T := fun k => match k with
  | 0 => ("PermitRules$Book", "names", "[J", true)
  | 1 => ("PermitRules$Book", "days", "[J", true)
  | 2 => ("PermitRules$Book", "clausesBehind", "[I", true)
  | 3 => ("PermitRules$Book", "ruleCount", "I", false)
  | 4 => ("PermitRules$Book", "signs", "[I", true)
  | 5 => ("PermitRules$Book", "stepsBehindLeft", "[I", true)
  | 6 => ("PermitRules$Book", "stepsBehindRight", "[I", true)
  | 7 => ("PermitRules$Book", "clauseCount", "I", false)
  | 8 => ("PermitRules$Book", "kinds", "[I", true)
  | 9 => ("PermitRules$Book", "worths", "[J", true)
  | _ => ("PermitRules$Book", "stepCount", "I", false)
def ty_Book : Nat → FieldType := fun k => match k with
  | 0 => .array .long
  | 1 => .array .long
  | 2 => .array .int
  | 3 => .int
  | 4 => .array .int
  | 5 => .array .int
  | 6 => .array .int
  | 7 => .int
  | 8 => .array .int
  | 9 => .array .long
  | _ => .int
theorem nm_Book : ∀ a, a < 11 → ∀ b, b < 11 → a ≠ b → (T_Book a).2.1 ≠ (T_Book b).2.1 := by decide +kernel
theorem to_Book : ∀ k, k < 11 → parseFieldDescriptor (T_Book k).2.2.1 = some (ty_Book k) := by decide +kernel
theorem in_Book : ∀ w ∈ u_ws "PermitRules$Book" T_Book 11, w ∈ bgw := by decide +kernel
def T_Facts : u_T := fun k => match k with
  | 0 => ("PermitRules$Facts", "names", "[J", true)
  | 1 => ("PermitRules$Facts", "values", "[I", true)
  | _ => ("PermitRules$Facts", "size", "I", false)
def ty_Facts : Nat → FieldType := fun k => match k with
  | 0 => .array .long
  | 1 => .array .int
  | _ => .int
theorem nm_Facts : ∀ a, a < 3 → ∀ b, b < 3 → a ≠ b → (T_Facts a).2.1 ≠ (T_Facts b).2.1 := by decide +kernel
theorem to_Facts : ∀ k, k < 3 → parseFieldDescriptor (T_Facts k).2.2.1 = some (ty_Facts k) := by decide +kernel
theorem in_Facts : ∀ w ∈ u_ws "PermitRules$Facts" T_Facts 3, w ∈ bgw := by decide +kernel
def T_Judge : u_T := fun k => match k with
  | 0 => ("PermitRules$Judge", "reckoner", "LPermitRules$Reckoner;", true)
  | 1 => ("PermitRules$Judge", "state", "I", false)
  | 2 => ("PermitRules$Judge", "leftUpper", "J", false)
  | 3 => ("PermitRules$Judge", "leftLower", "J", false)
  | 4 => ("PermitRules$Judge", "rightUpper", "J", false)
  | _ => ("PermitRules$Judge", "rightLower", "J", false)
def ty_Judge : Nat → FieldType := fun k => match k with
  | 0 => .object "PermitRules$Reckoner"
  | 1 => .int
  | 2 => .long
  | 3 => .long
  | 4 => .long
  | _ => .long
theorem nm_Judge : ∀ a, a < 6 → ∀ b, b < 6 → a ≠ b → (T_Judge a).2.1 ≠ (T_Judge b).2.1 := by decide +kernel
theorem to_Judge : ∀ k, k < 6 → parseFieldDescriptor (T_Judge k).2.2.1 = some (ty_Judge k) := by decide +kernel
theorem in_Judge : ∀ w ∈ u_ws "PermitRules$Judge" T_Judge 6, w ∈ bgw := by decide +kernel
def T_Reader : u_T := fun k => match k with
  | _ => ("PermitRules$Reader", "words", "LPermitRules$Words;", true)
def ty_Reader : Nat → FieldType := fun k => match k with
  | _ => .object "PermitRules$Words"
theorem nm_Reader : ∀ a, a < 1 → ∀ b, b < 1 → a ≠ b → (T_Reader a).2.1 ≠ (T_Reader b).2.1 := by decide +kernel
theorem to_Reader : ∀ k, k < 1 → parseFieldDescriptor (T_Reader k).2.2.1 = some (ty_Reader k) := by decide +kernel
theorem in_Reader : ∀ w ∈ u_ws "PermitRules$Reader" T_Reader 1, w ∈ bgw := by decide +kernel
def T_Reckoner : u_T := fun k => match k with
  | 0 => ("PermitRules$Reckoner", "uppers", "[J", true)
  | 1 => ("PermitRules$Reckoner", "lowers", "[J", true)
  | 2 => ("PermitRules$Reckoner", "pending", "I", false)
  | 3 => ("PermitRules$Reckoner", "why", "I", false)
  | _ => ("PermitRules$Reckoner", "missing", "J", false)
def ty_Reckoner : Nat → FieldType := fun k => match k with
  | 0 => .array .long
  | 1 => .array .long
  | 2 => .int
  | 3 => .int
  | _ => .long
theorem nm_Reckoner : ∀ a, a < 5 → ∀ b, b < 5 → a ≠ b → (T_Reckoner a).2.1 ≠ (T_Reckoner b).2.1 := by decide +kernel
theorem to_Reckoner : ∀ k, k < 5 → parseFieldDescriptor (T_Reckoner k).2.2.1 = some (ty_Reckoner k) := by decide +kernel
theorem in_Reckoner : ∀ w ∈ u_ws "PermitRules$Reckoner" T_Reckoner 5, w ∈ bgw := by decide +kernel
def T_Text : u_T := fun k => match k with
  | 0 => ("PermitRules$Text", "characters", "[B", true)
  | _ => ("PermitRules$Text", "length", "I", false)
def ty_Text : Nat → FieldType := fun k => match k with
  | 0 => .array .byte
  | _ => .int
theorem nm_Text : ∀ a, a < 2 → ∀ b, b < 2 → a ≠ b → (T_Text a).2.1 ≠ (T_Text b).2.1 := by decide +kernel
theorem to_Text : ∀ k, k < 2 → parseFieldDescriptor (T_Text k).2.2.1 = some (ty_Text k) := by decide +kernel
theorem in_Text : ∀ w ∈ u_ws "PermitRules$Text" T_Text 2, w ∈ bgw := by decide +kernel
def T_Words : u_T := fun k => match k with
  | 0 => ("PermitRules$Words", "kinds", "[I", true)
  | 1 => ("PermitRules$Words", "places", "[I", true)
  | 2 => ("PermitRules$Words", "worths", "[J", true)
  | _ => ("PermitRules$Words", "current", "I", false)
def ty_Words : Nat → FieldType := fun k => match k with
  | 0 => .array .int
  | 1 => .array .int
  | 2 => .array .long
  | _ => .int
theorem nm_Words : ∀ a, a < 4 → ∀ b, b < 4 → a ≠ b → (T_Words a).2.1 ≠ (T_Words b).2.1 := by decide +kernel
theorem to_Words : ∀ k, k < 4 → parseFieldDescriptor (T_Words k).2.2.1 = some (ty_Words k) := by decide +kernel
theorem in_Words : ∀ w ∈ u_ws "PermitRules$Words" T_Words 4, w ∈ bgw := by decide +kernel
def T_PR : u_T := fun k => match k with
  | 0 => ("PermitRules", "text", "LPermitRules$Text;", true)
  | 1 => ("PermitRules", "reader", "LPermitRules$Reader;", true)
  | 2 => ("PermitRules", "facts", "LPermitRules$Facts;", true)
  | 3 => ("PermitRules", "judge", "LPermitRules$Judge;", true)
  | 4 => ("PermitRules", "answers", "[J", true)
  | 5 => ("PermitRules", "book", "LPermitRules$Book;", false)
  | 6 => ("PermitRules", "spare", "LPermitRules$Book;", false)
  | 7 => ("PermitRules", "asked", "Z", false)
  | _ => ("PermitRules", "askedDay", "I", false)
def ty_PR : Nat → FieldType := fun k => match k with
  | 0 => .object "PermitRules$Text"
  | 1 => .object "PermitRules$Reader"
  | 2 => .object "PermitRules$Facts"
  | 3 => .object "PermitRules$Judge"
  | 4 => .array .long
  | 5 => .object "PermitRules$Book"
  | 6 => .object "PermitRules$Book"
  | 7 => .boolean
  | _ => .int
theorem nm_PR : ∀ a, a < 9 → ∀ b, b < 9 → a ≠ b → (T_PR a).2.1 ≠ (T_PR b).2.1 := by decide +kernel
theorem to_PR : ∀ k, k < 9 → parseFieldDescriptor (T_PR k).2.2.1 = some (ty_PR k) := by decide +kernel
theorem in_PR : ∀ w ∈ u_ws "PermitRules" T_PR 9, w ∈ bgw := by decide +kernel
def T_Model : u_T := fun k => match k with
  | 0 => ("PermitRulesModel", "thrown", "I", false)
  | 1 => ("PermitRulesModel", "text", "[I", true)
  | 2 => ("PermitRulesModel", "length", "I", false)
  | 3 => ("PermitRulesModel", "at", "I", false)
  | 4 => ("PermitRulesModel", "kind", "I", false)
  | 5 => ("PermitRulesModel", "place", "I", false)
  | 6 => ("PermitRulesModel", "value", "J", false)
  | 7 => ("PermitRulesModel", "words", "I", false)
  | 8 => ("PermitRulesModel", "names", "[J", true)
  | 9 => ("PermitRulesModel", "days", "[J", true)
  | 10 => ("PermitRulesModel", "firstClauses", "[I", true)
  | 11 => ("PermitRulesModel", "signs", "[I", true)
  | 12 => ("PermitRulesModel", "leftFrom", "[I", true)
  | 13 => ("PermitRulesModel", "rightFrom", "[I", true)
  | 14 => ("PermitRulesModel", "clauseEnd", "[I", true)
  | 15 => ("PermitRulesModel", "stepKinds", "[I", true)
  | 16 => ("PermitRulesModel", "stepValues", "[J", true)
  | 17 => ("PermitRulesModel", "draftRules", "I", false)
  | 18 => ("PermitRulesModel", "draftClauses", "I", false)
  | 19 => ("PermitRulesModel", "draftSteps", "I", false)
  | 20 => ("PermitRulesModel", "rules", "I", false)
  | 21 => ("PermitRulesModel", "clauses", "I", false)
  | 22 => ("PermitRulesModel", "open", "[I", true)
  | 23 => ("PermitRulesModel", "openSize", "I", false)
  | 24 => ("PermitRulesModel", "facts", "I", false)
  | 25 => ("PermitRulesModel", "factNames", "[J", true)
  | 26 => ("PermitRulesModel", "factValues", "[J", true)
  | 27 => ("PermitRulesModel", "ups", "[J", true)
  | 28 => ("PermitRulesModel", "downs", "[J", true)
  | 29 => ("PermitRulesModel", "pile", "I", false)
  | 30 => ("PermitRulesModel", "why", "I", false)
  | 31 => ("PermitRulesModel", "missing", "J", false)
  | 32 => ("PermitRulesModel", "asked", "Z", false)
  | 33 => ("PermitRulesModel", "day", "I", false)
  | 34 => ("PermitRulesModel", "states", "[I", true)
  | 35 => ("PermitRulesModel", "results", "[J", true)
  | 36 => ("PermitRulesModel", "leftUp", "J", false)
  | 37 => ("PermitRulesModel", "leftDown", "J", false)
  | 38 => ("PermitRulesModel", "rightUp", "J", false)
  | _ => ("PermitRulesModel", "rightDown", "J", false)
def ty_Model : Nat → FieldType := fun k => match k with
  | 0 => .int
  | 1 => .array .int
  | 2 => .int
  | 3 => .int
  | 4 => .int
  | 5 => .int
  | 6 => .long
  | 7 => .int
  | 8 => .array .long
  | 9 => .array .long
  | 10 => .array .int
  | 11 => .array .int
  | 12 => .array .int
  | 13 => .array .int
  | 14 => .array .int
  | 15 => .array .int
  | 16 => .array .long
  | 17 => .int
  | 18 => .int
  | 19 => .int
  | 20 => .int
  | 21 => .int
  | 22 => .array .int
  | 23 => .int
  | 24 => .int
  | 25 => .array .long
  | 26 => .array .long
  | 27 => .array .long
  | 28 => .array .long
  | 29 => .int
  | 30 => .int
  | 31 => .long
  | 32 => .boolean
  | 33 => .int
  | 34 => .array .int
  | 35 => .array .long
  | 36 => .long
  | 37 => .long
  | 38 => .long
  | _ => .long
theorem nm_Model : ∀ a, a < 40 → ∀ b, b < 40 → a ≠ b → (T_Model a).2.1 ≠ (T_Model b).2.1 := by decide +kernel
theorem to_Model : ∀ k, k < 40 → parseFieldDescriptor (T_Model k).2.2.1 = some (ty_Model k) := by decide +kernel
theorem in_Model : ∀ w ∈ u_ws "PermitRulesModel" T_Model 40, w ∈ bgw := by decide +kernel
abbrev vwCl : List vw_C := [("PermitRules$Book", T_Book, 11), ("PermitRules$Facts", T_Facts, 3), ("PermitRules$Judge", T_Judge, 6), ("PermitRules$Reader", T_Reader, 1), ("PermitRules$Reckoner", T_Reckoner, 5), ("PermitRules$Text", T_Text, 2), ("PermitRules$Words", T_Words, 4), ("PermitRules", T_PR, 9), ("PermitRulesModel", T_Model, 40)]
def nsF : List (String × Nat × String × String × String) := [("PermitRules", 70, "PermitRules$Text", "length", "I"), ("PermitRules", 114, "PermitRules$Facts", "size", "I"), ("PermitRules$Judge", 55, "PermitRules$Reckoner", "why", "I"), ("PermitRules", 198, "PermitRules$Reckoner", "why", "I"), ("PermitRules", 203, "PermitRules$Reckoner", "missing", "J"), ("PermitRules", 194, "PermitRules$Judge", "reckoner", "LPermitRules$Reckoner;"), ("PermitRules", 146, "PermitRules$Judge", "state", "I"), ("PermitRules", 181, "PermitRules$Judge", "leftUpper", "J"), ("PermitRules", 185, "PermitRules$Judge", "leftLower", "J"), ("PermitRules", 188, "PermitRules$Judge", "rightUpper", "J"), ("PermitRules", 191, "PermitRules$Judge", "rightLower", "J"), ("PermitRules", 96, "PermitRules$Book", "ruleCount", "I"), ("PermitRules", 172, "PermitRules$Book", "clauseCount", "I"), ("PermitRules$Reader", 67, "PermitRules$Book", "stepCount", "I")]
def nsM : List (String × Nat × MethodName) := [("PermitRules", 11, (⟨"PermitRules$Text", "<init>", "()V"⟩ : MethodName)), ("PermitRules", 18, (⟨"PermitRules$Reader", "<init>", "()V"⟩ : MethodName)), ("PermitRules$Reader", 11, (⟨"PermitRules$Words", "<init>", "()V"⟩ : MethodName)), ("PermitRules", 25, (⟨"PermitRules$Facts", "<init>", "()V"⟩ : MethodName)), ("PermitRules", 32, (⟨"PermitRules$Judge", "<init>", "()V"⟩ : MethodName)), ("PermitRules$Judge", 11, (⟨"PermitRules$Reckoner", "<init>", "()V"⟩ : MethodName)), ("PermitRules", 43, (⟨"PermitRules$Book", "<init>", "()V"⟩ : MethodName)), ("PermitRules$Words", 47, (⟨"PermitRules", "isDigit", "(I)Z"⟩ : MethodName)), ("PermitRules$Words", 51, (⟨"PermitRules", "isLetter", "(I)Z"⟩ : MethodName))]
theorem nf_0 : ("PermitRules", 70, "PermitRules$Text", "length", "I") ∈ nsF := by decide +kernel
theorem nf_1 : ("PermitRules", 114, "PermitRules$Facts", "size", "I") ∈ nsF := by decide +kernel
theorem nf_2 : ("PermitRules$Judge", 55, "PermitRules$Reckoner", "why", "I") ∈ nsF := by decide +kernel
theorem nf_3 : ("PermitRules", 198, "PermitRules$Reckoner", "why", "I") ∈ nsF := by decide +kernel
theorem nf_4 : ("PermitRules", 203, "PermitRules$Reckoner", "missing", "J") ∈ nsF := by decide +kernel
theorem nf_5 : ("PermitRules", 194, "PermitRules$Judge", "reckoner", "LPermitRules$Reckoner;") ∈ nsF := by decide +kernel
theorem nf_6 : ("PermitRules", 146, "PermitRules$Judge", "state", "I") ∈ nsF := by decide +kernel
theorem nf_7 : ("PermitRules", 181, "PermitRules$Judge", "leftUpper", "J") ∈ nsF := by decide +kernel
theorem nf_8 : ("PermitRules", 185, "PermitRules$Judge", "leftLower", "J") ∈ nsF := by decide +kernel
theorem nf_9 : ("PermitRules", 188, "PermitRules$Judge", "rightUpper", "J") ∈ nsF := by decide +kernel
theorem nf_10 : ("PermitRules", 191, "PermitRules$Judge", "rightLower", "J") ∈ nsF := by decide +kernel
theorem nf_11 : ("PermitRules", 96, "PermitRules$Book", "ruleCount", "I") ∈ nsF := by decide +kernel
theorem nf_12 : ("PermitRules", 172, "PermitRules$Book", "clauseCount", "I") ∈ nsF := by decide +kernel
theorem nf_13 : ("PermitRules$Reader", 67, "PermitRules$Book", "stepCount", "I") ∈ nsF := by decide +kernel
theorem nn_0 : ("PermitRules", 11, (⟨"PermitRules$Text", "<init>", "()V"⟩ : MethodName)) ∈ nsM := by decide +kernel
theorem nn_1 : ("PermitRules", 18, (⟨"PermitRules$Reader", "<init>", "()V"⟩ : MethodName)) ∈ nsM := by decide +kernel
theorem nn_2 : ("PermitRules$Reader", 11, (⟨"PermitRules$Words", "<init>", "()V"⟩ : MethodName)) ∈ nsM := by decide +kernel
theorem nn_3 : ("PermitRules", 25, (⟨"PermitRules$Facts", "<init>", "()V"⟩ : MethodName)) ∈ nsM := by decide +kernel
theorem nn_4 : ("PermitRules", 32, (⟨"PermitRules$Judge", "<init>", "()V"⟩ : MethodName)) ∈ nsM := by decide +kernel
theorem nn_5 : ("PermitRules$Judge", 11, (⟨"PermitRules$Reckoner", "<init>", "()V"⟩ : MethodName)) ∈ nsM := by decide +kernel
theorem nn_6 : ("PermitRules", 43, (⟨"PermitRules$Book", "<init>", "()V"⟩ : MethodName)) ∈ nsM := by decide +kernel
theorem nn_7 : ("PermitRules$Words", 47, (⟨"PermitRules", "isDigit", "(I)Z"⟩ : MethodName)) ∈ nsM := by decide +kernel
theorem nn_8 : ("PermitRules$Words", 51, (⟨"PermitRules", "isLetter", "(I)Z"⟩ : MethodName)) ∈ nsM := by decide +kernel
def kx (dC : Nat → ClassId) (dI : Nat → Nat → Nat) (cB cI cJ : ClassId) (U : State) : Prop := va_K (dC, dI) vwCl [(cB, .byte), (cI, .int), (cJ, .long)] U ∧ (∀ q ∈ nsF, va_Nw (.fieldLinkNest q.1 q.2.1 q.2.2.1 q.2.2.2.1 q.2.2.2.2 "PermitRules") U) ∧ ∀ q ∈ nsM, va_Nw (.methodLinkNest q.1 q.2.1 q.2.2 "PermitRules") U
theorem kx_w {dC : Nat → ClassId} {dI : Nat → Nat → Nat} {cB cI cJ : ClassId} {s U : State} (hW : s.WarmedH U.vm) (h : kx dC dI cB cI cJ s) : kx dC dI cB cI cJ U := ⟨va_K.moved hW.alike h.1, fun q hq => va_Nw.warmF hW (h.2.1 q hq), fun q hq => va_Nw.warmM hW (h.2.2 q hq)⟩
theorem kx_v {dC : Nat → ClassId} {dI : Nat → Nat → Nat} {cB cI cJ : ClassId} {s U : State} (hv : s.vm = U.vm) (h : kx dC dI cB cI cJ s) : kx dC dI cB cI cJ U := ⟨va_K.moved (by rw [hv]; exact Vm.Alike.refl _) h.1, fun q hq => va_Nw.same rfl hv (h.2.1 q hq), fun q hq => va_Nw.same rfl hv (h.2.2 q hq)⟩
def kb_B (dC : Nat → ClassId) (dI : Nat → Nat → Nat) (cB cI cJ : ClassId) (w : va_W) (sz : Nat) (U : State) : Prop := U.heap.size = sz ∧ va_P (dC, dI) vwCl w U.heap ∧ kx dC dI cB cI cJ U ∧ va_D (fun _ => True) w
theorem kb_blind {dC : Nat → ClassId} {dI : Nat → Nat → Nat} {cB cI cJ : ClassId} {w : va_W} {sz : Nat} {av : List Value} : FrameBlind (va_Pc av (kb_B dC dI cB cI cJ w sz)) := fun a U g mk q => by
  obtain ⟨q0, q1, qP, qK, qD⟩ := q
  exact ⟨q0, q1, qP, kx_v (s := U) (U := U.calling g mk a) rfl qK, qD⟩
theorem kb_at {dC : Nat → ClassId} {dI : Nat → Nat → Nat} {cB cI cJ : ClassId} {w : va_W} {A : Nat → Prop} {av : List Value} {s : State} {H : Heap} (hP : va_P (dC, dI) vwCl w H) (hD : va_D A w) (hK : kx dC dI cB cI cJ s) : ∀ U : State, U.heap = H → s.WarmedH U.vm → va_Pc av (kb_B dC dI cB cI cJ w H.size) av.toArray U := fun U hU hW =>
  ⟨rfl, by rw [hU], by rw [hU]; exact hP, kx_w hW hK, hD.weaken (fun _ _ _ _ => trivial)⟩
