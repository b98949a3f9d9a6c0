/-! THE CLAIM OUT OF ONE WALK OF THE LAW'S BODY. Your part is whole_start (and what it stands on); all else here is the same for every law, but numbers. -/
def R_law : String := "PermitRulesLaw"
def lw_P (b : Addr) (xs : List Int32) (args : Array Value) (s : State) : Prop := args = #[.ref b] ∧ s.IntsAt b xs ∧ xs.length ≤ 2560 ∧ (Jvm.Cond.and given_1 narrow_1).before args s = true
def lw_Q (_ : Array Value) (s : State) (o : Outcome) (t : State) : Prop := o = .returned (some (.int 1)) ∧ Framed s o t [] 601024 7293034
def lw_Z (below : List Frame) (a : Array Value) (s : State) : State → Prop := fun t => ∃ o, t.status = .running ∧ Ended t below o ∧ lw_Q a s o t
/-- the law's own end, with 1 on the stack, nothing written that was there before, its room as the claim has it -/
theorem lw_ret {p : Program} {l : Launch} {e : Env} {s : State} {m : MethodId} {below : List Frame} {meth : Method} {c : Code} {b : Nat} (hx : p.tables.exec = Jvm.exec) (hb : c.code = code) (hr : meth.sig.returnType = ret) (hlocks : meth.locks = false) {pc : Nat} {H : Heap} {ls : Array Slot} (hdg : decode code pc = .ok (.ireturn, 1)) : W p l e room_1 s m #[Value.ref b] below meth c H [] 601024 7293034 (lw_Z below #[Value.ref b] s) (F0 m pc ls [.int 1]) := by
  intro T hT X
  obtain ⟨fs, hret, hrun, hended, hW, hframe⟩ := X.leave (v := some (.int 1)) (hlocks := hlocks) (fun h => by rw [hr] at h; cases h)
  have hmeth' : T.vm.method? m = some meth := X.method'
  refine ⟨T.setFrames fs, ?_, .returned (some (.int 1)), hrun, hended, rfl, ⟨_, rfl⟩, hW, hframe⟩
  jvm_step X.here [X.here.top, hx, hb, hdg, hmeth', hr, ret, narrow_b1]
  (try refine ⟨rfl, ?_⟩); (try refine ⟨rfl, ?_⟩)
  first | (intro acts; rw [hret _ acts rfl rfl rfl]) | rw [hret _ _ rfl rfl rfl]
  exact Steps.refl _
/-- what holds at the law's entry: the machine, the code, the tables' words (any of lw_tbl by 'hts w (by decide +kernel)'), the script of L ints xs at the cell b, what the Statement gives of the start (any of its parts by flat_of_before) -/
def lw_At (p : Program) (s : State) (m : MethodId) (meth : Method) (c : Code) (b L : Nat) (xs : Nat → Int32) : Prop :=
  p.tables.exec = Jvm.exec ∧ c.code = code ∧ meth.sig.returnType = ret ∧ c.maxLocals = 8 ∧ s.vm.findClass R_law = some m.cls ∧ (∀ w ∈ lw_tbl, w.before #[Value.ref b] s = true) ∧ va_X b L xs s s.heap ∧ b < s.heap.size ∧ meth.locks = false ∧ (Jvm.Cond.and given_1 narrow_1).before #[Value.ref b] s = true
/-! what holds at the start -/
theorem ml_x {w : Cond} (h : w ∈ tables_1) : w ∈ lw_tbl := List.mem_append_right _ h
theorem ml_1 {w : Cond} (i : Nat) (h : tables_1_1[i]? = some w) : w ∈ lw_tbl := ml_x (List.mem_append_left _ (List.mem_of_getElem? h))
theorem ml_2 {w : Cond} (i : Nat) (h : tables_1_2[i]? = some w) : w ∈ lw_tbl := ml_x (List.mem_append_right _ (List.mem_append_left _ (List.mem_of_getElem? h)))
theorem ml_3 {w : Cond} (i : Nat) (h : tables_1_3[i]? = some w) : w ∈ lw_tbl := ml_x (List.mem_append_right _ (List.mem_append_right _ (List.mem_append_left _ (List.mem_of_getElem? h))))
theorem ml_4 {w : Cond} (i : Nat) (h : tables_1_4[i]? = some w) : w ∈ lw_tbl := ml_x (List.mem_append_right _ (List.mem_append_right _ (List.mem_append_right _ (List.mem_of_getElem? h))))
set_option maxRecDepth 20000 in
theorem zf_0 : (.fieldLinkNest "PermitRules" 70 "PermitRules$Text" "length" "I" "PermitRules" : Cond) ∈ lw_tbl := ml_1 31 rfl
set_option maxRecDepth 20000 in
theorem zf_1 : (.fieldLinkNest "PermitRules" 114 "PermitRules$Facts" "size" "I" "PermitRules" : Cond) ∈ lw_tbl := ml_1 78 rfl
set_option maxRecDepth 20000 in
theorem zf_2 : (.fieldLinkNest "PermitRules$Judge" 55 "PermitRules$Reckoner" "why" "I" "PermitRules" : Cond) ∈ lw_tbl := ml_1 102 rfl
set_option maxRecDepth 20000 in
theorem zf_3 : (.fieldLinkNest "PermitRules" 198 "PermitRules$Reckoner" "why" "I" "PermitRules" : Cond) ∈ lw_tbl := ml_1 103 rfl
set_option maxRecDepth 20000 in
theorem zf_4 : (.fieldLinkNest "PermitRules" 203 "PermitRules$Reckoner" "missing" "J" "PermitRules" : Cond) ∈ lw_tbl := ml_1 105 rfl
set_option maxRecDepth 20000 in
theorem zf_5 : (.fieldLinkNest "PermitRules" 194 "PermitRules$Judge" "reckoner" "LPermitRules$Reckoner;" "PermitRules" : Cond) ∈ lw_tbl := ml_1 118 rfl
set_option maxRecDepth 20000 in
theorem zf_6 : (.fieldLinkNest "PermitRules" 146 "PermitRules$Judge" "state" "I" "PermitRules" : Cond) ∈ lw_tbl := ml_1 120 rfl
set_option maxRecDepth 20000 in
theorem zf_7 : (.fieldLinkNest "PermitRules" 181 "PermitRules$Judge" "leftUpper" "J" "PermitRules" : Cond) ∈ lw_tbl := ml_1 122 rfl
set_option maxRecDepth 20000 in
theorem zf_8 : (.fieldLinkNest "PermitRules" 185 "PermitRules$Judge" "leftLower" "J" "PermitRules" : Cond) ∈ lw_tbl := ml_1 124 rfl
set_option maxRecDepth 20000 in
theorem zf_9 : (.fieldLinkNest "PermitRules" 188 "PermitRules$Judge" "rightUpper" "J" "PermitRules" : Cond) ∈ lw_tbl := ml_1 126 rfl
set_option maxRecDepth 20000 in
theorem zf_10 : (.fieldLinkNest "PermitRules" 191 "PermitRules$Judge" "rightLower" "J" "PermitRules" : Cond) ∈ lw_tbl := ml_1 128 rfl
set_option maxRecDepth 20000 in
theorem zf_11 : (.fieldLinkNest "PermitRules" 96 "PermitRules$Book" "ruleCount" "I" "PermitRules" : Cond) ∈ lw_tbl := ml_1 152 rfl
set_option maxRecDepth 20000 in
theorem zf_12 : (.fieldLinkNest "PermitRules" 172 "PermitRules$Book" "clauseCount" "I" "PermitRules" : Cond) ∈ lw_tbl := ml_1 157 rfl
set_option maxRecDepth 20000 in
theorem zf_13 : (.fieldLinkNest "PermitRules$Reader" 67 "PermitRules$Book" "stepCount" "I" "PermitRules" : Cond) ∈ lw_tbl := ml_1 161 rfl
set_option maxRecDepth 20000 in
theorem zm_0 : (.methodLinkNest "PermitRules" 11 (⟨"PermitRules$Text", "<init>", "()V"⟩ : MethodName) "PermitRules" : Cond) ∈ lw_tbl := ml_1 25 rfl
set_option maxRecDepth 20000 in
theorem zm_1 : (.methodLinkNest "PermitRules" 18 (⟨"PermitRules$Reader", "<init>", "()V"⟩ : MethodName) "PermitRules" : Cond) ∈ lw_tbl := ml_1 40 rfl
set_option maxRecDepth 20000 in
theorem zm_2 : (.methodLinkNest "PermitRules$Reader" 11 (⟨"PermitRules$Words", "<init>", "()V"⟩ : MethodName) "PermitRules" : Cond) ∈ lw_tbl := ml_1 46 rfl
set_option maxRecDepth 20000 in
theorem zm_3 : (.methodLinkNest "PermitRules" 25 (⟨"PermitRules$Facts", "<init>", "()V"⟩ : MethodName) "PermitRules" : Cond) ∈ lw_tbl := ml_1 71 rfl
set_option maxRecDepth 20000 in
theorem zm_4 : (.methodLinkNest "PermitRules" 32 (⟨"PermitRules$Judge", "<init>", "()V"⟩ : MethodName) "PermitRules" : Cond) ∈ lw_tbl := ml_1 88 rfl
set_option maxRecDepth 20000 in
theorem zm_5 : (.methodLinkNest "PermitRules$Judge" 11 (⟨"PermitRules$Reckoner", "<init>", "()V"⟩ : MethodName) "PermitRules" : Cond) ∈ lw_tbl := ml_1 94 rfl
set_option maxRecDepth 20000 in
theorem zm_6 : (.methodLinkNest "PermitRules" 43 (⟨"PermitRules$Book", "<init>", "()V"⟩ : MethodName) "PermitRules" : Cond) ∈ lw_tbl := ml_1 144 rfl
set_option maxRecDepth 20000 in
theorem zm_7 : (.methodLinkNest "PermitRules$Words" 47 (⟨"PermitRules", "isDigit", "(I)Z"⟩ : MethodName) "PermitRules" : Cond) ∈ lw_tbl := ml_1 235 rfl
set_option maxRecDepth 20000 in
theorem zm_8 : (.methodLinkNest "PermitRules$Words" 51 (⟨"PermitRules", "isLetter", "(I)Z"⟩ : MethodName) "PermitRules" : Cond) ∈ lw_tbl := ml_1 238 rfl
set_option maxRecDepth 20000 in
theorem zs_0 : (.stringRef "PermitRules" 65 "a byte is no character" : Cond) ∈ lw_tbl := ml_2 134 rfl
set_option maxRecDepth 20000 in
theorem zs_1 : (.stringRef "PermitRules" 75 "the text would be too long" : Cond) ∈ lw_tbl := ml_2 169 rfl
set_option maxRecDepth 20000 in
theorem zs_2 : (.stringRef "PermitRules" 86 "the text has not so many characters" : Cond) ∈ lw_tbl := ml_2 187 rfl
set_option maxRecDepth 20000 in
theorem zs_3 : (.stringRef "PermitRules" 103 "no name" : Cond) ∈ lw_tbl := ml_2 199 rfl
set_option maxRecDepth 20000 in
theorem zs_4 : (.stringRef "PermitRules" 109 "no value" : Cond) ∈ lw_tbl := ml_2 205 rfl
set_option maxRecDepth 20000 in
theorem zs_5 : (.stringRef "PermitRules" 117 "there are 40 facts" : Cond) ∈ lw_tbl := ml_2 210 rfl
set_option maxRecDepth 20000 in
theorem zs_6 : (.stringRef "PermitRules" 137 "no day" : Cond) ∈ lw_tbl := ml_3 3 rfl
set_option maxRecDepth 20000 in
theorem zs_7 : (.stringRef "PermitRules" 150 "no such rule" : Cond) ∈ lw_tbl := ml_3 130 rfl
set_option maxRecDepth 20000 in
theorem zs_8 : (.stringRef "PermitRules" 152 "no such answer" : Cond) ∈ lw_tbl := ml_3 131 rfl
set_option maxRecDepth 20000 in
theorem zs_9 : (.stringRef "PermitRules" 154 "the rule was not asked" : Cond) ∈ lw_tbl := ml_3 132 rfl
set_option maxRecDepth 20000 in
theorem zs_10 : (.stringRef "PermitRules" 160 "below 0" : Cond) ∈ lw_tbl := ml_3 144 rfl
set_option maxRecDepth 20000 in
theorem zs_11 : (.stringRef "PermitRules" 162 "the rules were not asked" : Cond) ∈ lw_tbl := ml_3 145 rfl
set_option maxRecDepth 20000 in
theorem zs_12 : (.stringRef "PermitRules" 164 "no such steps" : Cond) ∈ lw_tbl := ml_3 153 rfl
set_option maxRecDepth 20000 in
theorem zs_13 : (.stringRef "PermitRules" 166 "no such fact" : Cond) ∈ lw_tbl := ml_3 154 rfl
set_option maxRecDepth 20000 in
theorem zs_14 : (.stringRef "PermitRules" 175 "no such count" : Cond) ∈ lw_tbl := ml_3 166 rfl
theorem kx_0 {args : Array Value} {s : State} (htb : ∀ w ∈ bgw, w.before args s = true) (hts : ∀ w ∈ lw_tbl, w.before args s = true) : ∃ (dC : Nat → ClassId) (dI : Nat → Nat → Nat) (cB cI cJ : ClassId), kx dC dI cB cI cJ s := by
  obtain ⟨c0, i0, k0⟩ := u_known htb in_Book (htb _ mb_143)
  obtain ⟨c1, i1, k1⟩ := u_known htb in_Facts (htb _ mb_70)
  obtain ⟨c2, i2, k2⟩ := u_known htb in_Judge (htb _ mb_87)
  obtain ⟨c3, i3, k3⟩ := u_known htb in_Reader (htb _ mb_39)
  obtain ⟨c4, i4, k4⟩ := u_known htb in_Reckoner (htb _ mb_93)
  obtain ⟨c5, i5, k5⟩ := u_known htb in_Text (htb _ mb_24)
  obtain ⟨c6, i6, k6⟩ := u_known htb in_Words (htb _ mb_45)
  obtain ⟨c7, i7, k7⟩ := u_known htb in_PR (htb _ mb_16)
  obtain ⟨c8, i8, k8⟩ := u_known htb in_Model (htb _ mb_648)
  obtain ⟨aB, bB, dB, eB, fB, gB⟩ := Cond.arrayClass_spec (htb _ mb_37)
  obtain ⟨aI, bI, dI, eI, fI, gI⟩ := Cond.arrayClass_spec (htb _ mb_63)
  obtain ⟨aJ, bJ, dJ, eJ, fJ, gJ⟩ := Cond.arrayClass_spec (htb _ mb_64)
  refine ⟨fun n => match n with | 0 => c0 | 1 => c1 | 2 => c2 | 3 => c3 | 4 => c4 | 5 => c5 | 6 => c6 | 7 => c7 | _ => c8, fun n => match n with | 0 => i0 | 1 => i1 | 2 => i2 | 3 => i3 | 4 => i4 | 5 => i5 | 6 => i6 | 7 => i7 | _ => i8, aB, aI, aJ, ⟨fun c q hq => ?_, fun k q hk => ?_⟩, fun q hq => ?_, fun q hq => ?_⟩
  · have hc : c < 9 := (List.getElem?_eq_some_iff.mp hq).1
    rcases (show c = 0 ∨ c = 1 ∨ c = 2 ∨ c = 3 ∨ c = 4 ∨ c = 5 ∨ c = 6 ∨ c = 7 ∨ c = 8 by omega) with h | h | h | h | h | h | h | h | h
    · subst h
      cases hq
      exact k0
    · subst h
      cases hq
      exact k1
    · subst h
      cases hq
      exact k2
    · subst h
      cases hq
      exact k3
    · subst h
      cases hq
      exact k4
    · subst h
      cases hq
      exact k5
    · subst h
      cases hq
      exact k6
    · subst h
      cases hq
      exact k7
    · subst h
      cases hq
      exact k8
  · have hc : k < 3 := (List.getElem?_eq_some_iff.mp hk).1
    rcases (show k = 0 ∨ k = 1 ∨ k = 2 by omega) with h | h | h
    · subst h
      cases hk
      exact ⟨fun n z => ⟨fun k h => (by cases h), bB, fB, dB, gB⟩, eB⟩
    · subst h
      cases hk
      exact ⟨fun n z => ⟨fun k h => (by cases h), bI, fI, dI, gI⟩, eI⟩
    · subst h
      cases hk
      exact ⟨fun n z => ⟨fun k h => (by cases h), bJ, fJ, dJ, gJ⟩, eJ⟩
  · simp only [nsF, List.mem_cons, List.not_mem_nil, or_false] at hq
    rcases hq with h | h | h | h | h | h | h | h | h | h | h | h | h | h
    · subst h
      exact va_Nw.of rfl (hts _ zf_0)
    · subst h
      exact va_Nw.of rfl (hts _ zf_1)
    · subst h
      exact va_Nw.of rfl (hts _ zf_2)
    · subst h
      exact va_Nw.of rfl (hts _ zf_3)
    · subst h
      exact va_Nw.of rfl (hts _ zf_4)
    · subst h
      exact va_Nw.of rfl (hts _ zf_5)
    · subst h
      exact va_Nw.of rfl (hts _ zf_6)
    · subst h
      exact va_Nw.of rfl (hts _ zf_7)
    · subst h
      exact va_Nw.of rfl (hts _ zf_8)
    · subst h
      exact va_Nw.of rfl (hts _ zf_9)
    · subst h
      exact va_Nw.of rfl (hts _ zf_10)
    · subst h
      exact va_Nw.of rfl (hts _ zf_11)
    · subst h
      exact va_Nw.of rfl (hts _ zf_12)
    · subst h
      exact va_Nw.of rfl (hts _ zf_13)
  · simp only [nsM, List.mem_cons, List.not_mem_nil, or_false] at hq
    rcases hq with h | h | h | h | h | h | h | h | h
    · subst h
      exact va_Nw.of rfl (hts _ zm_0)
    · subst h
      exact va_Nw.of rfl (hts _ zm_1)
    · subst h
      exact va_Nw.of rfl (hts _ zm_2)
    · subst h
      exact va_Nw.of rfl (hts _ zm_3)
    · subst h
      exact va_Nw.of rfl (hts _ zm_4)
    · subst h
      exact va_Nw.of rfl (hts _ zm_5)
    · subst h
      exact va_Nw.of rfl (hts _ zm_6)
    · subst h
      exact va_Nw.of rfl (hts _ zm_7)
    · subst h
      exact va_Nw.of rfl (hts _ zm_8)
theorem fl_l {a b c : Cond} (h : c ∈ flatC a) : c ∈ flatC (.and a b) := by
  simp only [flatC, List.mem_append]
  exact Or.inl h
theorem fl_r {a b c : Cond} (h : c ∈ flatC b) : c ∈ flatC (.and a b) := by
  simp only [flatC, List.mem_append]
  exact Or.inr h
theorem fl_s {t : Term} : Cond.isRef t ∈ flatC (.isRef t) := by
  simp only [flatC, List.mem_singleton]
theorem ls_x {a b : Array Value} {s : State} {o n d : String} (h : (Cond.laysStatic o n d).before a s = true) : (Cond.laysStatic o n d).before b s = true := by
  simp only [Cond.before, Cond.holds, Cond.value] at h ⊢
  exact h
theorem ir_x {a b : Array Value} {s : State} {o n d : String} (h : (Cond.isRef (.static o n d)).before a s = true) : (Cond.isRef (.static o n d)).before b s = true := by
  simp only [Cond.before, Cond.holds, Cond.value, Term.eval] at h ⊢
  exact h
theorem nc_0 {args : Array Value} {s : State} {a b : String} (h : (Cond.not (.castable a b)).before args s = true) : ∀ c1 c2, s.vm.findClass a = some c1 → s.vm.findClass b = some c2 → s.vm.assignable c1 c2 = false := by
  intro c1 c2 h1 h2
  simp [Cond.before, Cond.holds, Cond.value, h1, h2] at h
  simpa using h
theorem xk_0 {b : Nat} {s : State} (hts : ∀ w ∈ lw_tbl, w.before #[Value.ref b] s = true) (hgv : (Jvm.Cond.and given_1 narrow_1).before #[Value.ref b] s = true) : xk s := by
  have hs := flat_of_before _ hgv
  refine ⟨fun w hw => ?_, fun z hz => ?_, nc_0 (hs _ (by decide +kernel))⟩
  · simp only [xkw, List.mem_cons, List.not_mem_nil, or_false] at hw
    rcases hw with h | h | h | h | h | h | h | h | h
    · subst h
      exact ls_x (hts _ (ml_2 121 rfl))
    · subst h
      exact ls_x (hts _ (ml_2 123 rfl))
    · subst h
      exact ir_x (hs (.isRef (.static "java/lang/Throwable" "UNASSIGNED_STACK" "[Ljava/lang/StackTraceElement;")) (fl_r (fl_l (fl_l (fl_l (fl_l (fl_l (fl_l (fl_l (fl_r (fl_r fl_s)))))))))))
    · subst h
      exact ir_x (hs (.isRef (.static "java/lang/Throwable" "SUPPRESSED_SENTINEL" "Ljava/util/List;")) (fl_r (fl_l (fl_l (fl_l (fl_l (fl_l (fl_l (fl_r (fl_l fl_s))))))))))
    · subst h
      exact va_tabs rfl rfl (hts _ (ml_2 98 rfl))
    · subst h
      exact va_tabs rfl rfl (hts _ (ml_2 100 rfl))
    · subst h
      exact va_tabs rfl rfl (hts _ (ml_2 102 rfl))
    · subst h
      exact va_tabs rfl rfl (hts _ (ml_2 96 rfl))
    · subst h
      exact va_tabs rfl rfl (hts _ (ml_2 162 rfl))
  · simp only [xstr, List.mem_cons, List.not_mem_nil, or_false] at hz
    rcases hz with h | h | h | h | h | h | h | h | h | h | h | h | h | h | h
    · subst h
      exact hts _ zs_0
    · subst h
      exact hts _ zs_1
    · subst h
      exact hts _ zs_2
    · subst h
      exact hts _ zs_3
    · subst h
      exact hts _ zs_4
    · subst h
      exact hts _ zs_5
    · subst h
      exact hts _ zs_6
    · subst h
      exact hts _ zs_7
    · subst h
      exact hts _ zs_8
    · subst h
      exact hts _ zs_9
    · subst h
      exact hts _ zs_10
    · subst h
      exact hts _ zs_11
    · subst h
      exact hts _ zs_12
    · subst h
      exact hts _ zs_13
    · subst h
      exact hts _ zs_14
