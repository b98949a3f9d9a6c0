/-! the law's ten helpers: calls that may throw, and what catches -/
section XC
variable {p : Program} {l : Launch} {e : Env} {R : Room} {s : State} {m : MethodId} {args : Array Value} {below : List Frame} {meth : Method} {c : Code} {H : Heap} {locs : List Loc} {cells slots : Nat} {Q : State → Prop}
variable {pc : Nat} {ls : Array Slot} {rest st0 : List Value} {A0 A1 : Nat → Prop} {H0 : Heap} {mc ms : Nat} {free : Addr → Prop} {S ρ : Type} {mk : ρ → Value} {post : Int32 → ρ → S → Prop} {B : S → State → Prop}
theorem xc_S {st₀ t T' : State} {L : List Loc} (hS : va_S A0 H0 H locs) (hA : ∀ q, q < H.size → A1 q → A0 q) (hf : ∀ q, free q → A0 q) (h0 : st₀.heap = H) (hF : va_F A1 st₀ t) (e1 : T'.heap = t.heap) (hL : ∀ q ∈ L, free q.base) :
    H.size ≤ T'.heap.size ∧ (∀ q : Nat, q < H.size → ¬ A1 q → T'.heap[q]? = H[q]?) ∧ va_S A0 H0 T'.heap (locs ++ L) := by
  obtain ⟨hz, hk⟩ := hF
  rw [h0] at hz hk
  refine ⟨by rw [e1]; exact hz, fun q h1 h2 => by rw [e1]; exact hk q h1 h2, Nat.le_trans hS.1 (by rw [e1]; exact hz), fun q h1 h2 => by rw [e1, hk q (Nat.lt_of_lt_of_le h1 hS.1) (fun z => h2 (hA q (Nat.lt_of_lt_of_le h1 hS.1) z))]; exact hS.2.1 q h1 h2, fun q hq => ?_⟩
  rcases List.mem_append.mp hq with h | h
  · exact hS.2.2 q h
  · exact hf _ (hL q h)
theorem xc_2 {h1 h2 s0 e0 s1 e1 : Nat} {tl : List (Nat × Nat × Nat × Nat)} (hr : XRun p l e R s m args below meth c H locs cells slots mc ms (F0 m pc ls st0) rest (fun st oc t => (∃ (k : Int32) (r : ρ) (u : S), post k r u ∧ xo k (mk r) oc t ∧ B u t) ∧ va_F A1 st t) free) (hS : va_S A0 H0 H locs) (hA : ∀ q, q < H.size → A1 q → A0 q) (hf : ∀ q, free q → A0 q)
    (hown : s.vm.findClass "PermitRulesLaw" = some m.cls) (hh : c.exceptionTable.toList.map (fun h => (h.startPc, h.endPc, h.handlerPc, h.catchType)) = (s0, e0, h1, 13) :: (s1, e1, h2, 15) :: tl) (hs : s0 ≤ pc ∧ pc < e0 ∧ s1 ≤ pc ∧ pc < e1)
    (hl1 : (Cond.classLink "PermitRulesLaw" 13 "java/lang/IllegalArgumentException").before args s = true) (hl2 : (Cond.classLink "PermitRulesLaw" 15 "java/lang/IllegalStateException").before args s = true) (hxk : xk s)
    (kk0 : ∀ (r : ρ) (u : S) (t : State) (H1 : Heap) (locs1 : List Loc), t.heap = H1 → s.vm.Alike t.vm → post 0 r u → B u t → H.size ≤ H1.size → (∀ q : Nat, q < H.size → ¬ A1 q → H1[q]? = H[q]?) → va_S A0 H0 H1 locs1 → W p l e R s m args below meth c H1 locs1 (cells + mc) (slots + ms) Q (F0 m (pc + 3) ls (mk r :: rest)))
    (kk1 : ∀ (x : Nat) (r : ρ) (u : S) (t : State) (H1 : Heap) (locs1 : List Loc), t.heap = H1 → s.vm.Alike t.vm → post 1 r u → B u t → H.size ≤ H1.size → (∀ q : Nat, q < H.size → ¬ A1 q → H1[q]? = H[q]?) → va_S A0 H0 H1 locs1 → W p l e R s m args below meth c H1 locs1 (cells + mc) (slots + ms) Q (F0 m h1 ls [.ref x]))
    (kk2 : ∀ (x : Nat) (r : ρ) (u : S) (t : State) (H1 : Heap) (locs1 : List Loc), t.heap = H1 → s.vm.Alike t.vm → post 2 r u → B u t → H.size ≤ H1.size → (∀ q : Nat, q < H.size → ¬ A1 q → H1[q]? = H[q]?) → va_S A0 H0 H1 locs1 → W p l e R s m args below meth c H1 locs1 (cells + mc) (slots + ms) Q (F0 m h2 ls [.ref x])) : W p l e R s m args below meth c H locs cells slots Q (F0 m pc ls st0) := by
  intro T hT X
  obtain ⟨o, st₀, t, T', L, h0, X', hL, q1, q2, ⟨⟨k, r, u, hp, hxo, hb⟩, hF⟩, hst⟩ := hr T hT X
  obtain ⟨z1, z2, z3⟩ := xc_S hS hA hf h0 hF q1 hL
  have hal : s.vm.Alike t.vm := by rw [← q2]; exact X'.warmed.alike
  rcases hxo with ⟨rfl, rfl⟩ | ⟨a, cell, rfl, hcell, hvm, hk⟩
  · rcases hst with ⟨v, hv, st⟩ | ⟨a, ha, -⟩
    · cases hv
      obtain ⟨t2, a1, b1⟩ := kk0 r u t T'.heap (locs ++ L) q1.symm hal hp hb z1 z2 z3 T' rfl X'
      exact ⟨t2, st t2 a1, b1⟩
    · cases ha
  · rcases hst with ⟨v, hv, -⟩ | ⟨a', ha, st⟩
    · cases hv
    · cases ha
      rcases hk with ⟨rfl, hfc⟩ | ⟨rfl, hfc⟩
      · obtain ⟨vm', X2, st2⟩ := xv_c1 X' a (g := F0 m pc ls rest) rfl hown hh hs.1 hs.2.1 (by decide) hl1 (by rw [q1]; exact hcell) hvm (by rw [q2]; exact hfc)
        obtain ⟨t2, a1, b1⟩ := kk1 a r u t T'.heap (locs ++ L) q1.symm hal hp hb z1 z2 z3 (T'.setVm vm') rfl X2
        exact ⟨t2, st t2 (st2 t2 a1), b1⟩
      · obtain ⟨vm', X2, st2⟩ := xv_c2 X' a (g := F0 m pc ls rest) rfl hown hh hs.1 hs.2.1 (by decide) hs.2.2.1 hs.2.2.2 (by decide) hl1 hl2 (by rw [q1]; exact hcell) hvm (by rw [q2]; exact hfc) hxk.2.2
        obtain ⟨t2, a1, b1⟩ := kk2 a r u t T'.heap (locs ++ L) q1.symm hal hp hb z1 z2 z3 (T'.setVm vm') rfl X2
        exact ⟨t2, st t2 (st2 t2 a1), b1⟩
theorem xc_1 {h1 s0 e0 : Nat} {tl : List (Nat × Nat × Nat × Nat)} (hr : XRun p l e R s m args below meth c H locs cells slots mc ms (F0 m pc ls st0) rest (fun st oc t => (∃ (k : Int32) (r : ρ) (u : S), post k r u ∧ xo k (mk r) oc t ∧ B u t) ∧ va_F A1 st t) free) (hS : va_S A0 H0 H locs) (hA : ∀ q, q < H.size → A1 q → A0 q) (hf : ∀ q, free q → A0 q)
    (hown : s.vm.findClass "PermitRulesLaw" = some m.cls) (hh : c.exceptionTable.toList.map (fun h => (h.startPc, h.endPc, h.handlerPc, h.catchType)) = (s0, e0, h1, 13) :: tl) (hs : s0 ≤ pc ∧ pc < e0)
    (hl1 : (Cond.classLink "PermitRulesLaw" 13 "java/lang/IllegalArgumentException").before args s = true) (hno : ∀ (r : ρ) (u : S), ¬ post 2 r u)
    (kk0 : ∀ (r : ρ) (u : S) (t : State) (H1 : Heap) (locs1 : List Loc), t.heap = H1 → s.vm.Alike t.vm → post 0 r u → B u t → H.size ≤ H1.size → (∀ q : Nat, q < H.size → ¬ A1 q → H1[q]? = H[q]?) → va_S A0 H0 H1 locs1 → W p l e R s m args below meth c H1 locs1 (cells + mc) (slots + ms) Q (F0 m (pc + 3) ls (mk r :: rest)))
    (kk1 : ∀ (x : Nat) (r : ρ) (u : S) (t : State) (H1 : Heap) (locs1 : List Loc), t.heap = H1 → s.vm.Alike t.vm → post 1 r u → B u t → H.size ≤ H1.size → (∀ q : Nat, q < H.size → ¬ A1 q → H1[q]? = H[q]?) → va_S A0 H0 H1 locs1 → W p l e R s m args below meth c H1 locs1 (cells + mc) (slots + ms) Q (F0 m h1 ls [.ref x])) : W p l e R s m args below meth c H locs cells slots Q (F0 m pc ls st0) := by
  intro T hT X
  obtain ⟨o, st₀, t, T', L, h0, X', hL, q1, q2, ⟨⟨k, r, u, hp, hxo, hb⟩, hF⟩, hst⟩ := hr T hT X
  obtain ⟨z1, z2, z3⟩ := xc_S hS hA hf h0 hF q1 hL
  have hal : s.vm.Alike t.vm := by rw [← q2]; exact X'.warmed.alike
  rcases hxo with ⟨rfl, rfl⟩ | ⟨a, cell, rfl, hcell, hvm, hk⟩
  · rcases hst with ⟨v, hv, st⟩ | ⟨a, ha, -⟩
    · cases hv
      obtain ⟨t2, a1, b1⟩ := kk0 r u t T'.heap (locs ++ L) q1.symm hal hp hb z1 z2 z3 T' rfl X'
      exact ⟨t2, st t2 a1, b1⟩
    · cases ha
  · rcases hst with ⟨v, hv, -⟩ | ⟨a', ha, st⟩
    · cases hv
    · cases ha
      rcases hk with ⟨rfl, hfc⟩ | ⟨rfl, hfc⟩
      · obtain ⟨vm', X2, st2⟩ := xv_c1 X' a (g := F0 m pc ls rest) rfl hown hh hs.1 hs.2 (by decide) hl1 (by rw [q1]; exact hcell) hvm (by rw [q2]; exact hfc)
        obtain ⟨t2, a1, b1⟩ := kk1 a r u t T'.heap (locs ++ L) q1.symm hal hp hb z1 z2 z3 (T'.setVm vm') rfl X2
        exact ⟨t2, st t2 (st2 t2 a1), b1⟩
      · exact absurd hp (hno r u)
end XC
section XS
variable {p : Program} {l : Launch} {e : Env} {R : Room} {s : State} {m : MethodId} {args : Array Value} {below : List Frame} {meth : Method} {c : Code} {H : Heap} {locs : List Loc} {cells slots : Nat}
variable {y : MethodName} {bytes cc : ByteArray} {maxL nL mc ms n index : Nat} {ret : Option FieldType} {ws : List Cond} {rm : Room} {Pc : Array Value → State → Prop} {Qc : Array Value → State → Outcome → State → Prop} {free : Addr → Prop} {Ts : List Cond} {own : String} {As rest : List Value} {g : JFrame} {hh : List (Nat × Nat × Nat × Nat)}
/-- a static method with a table of handlers, called -/
theorem xr_runSW (S : CallFix p m c cc nL s args Ts own) (hM : Met l y ws rm Pc Qc mc ms free) (hcw : Cond.codeWith y bytes maxL ret hh ∈ ws) (hcode : (Cond.codeWith y bytes maxL ret hh).before args s = true) (hws : ∀ w ∈ ws, ∀ (a' : Array Value) (U : State), s.WarmedH U.vm → w.before a' U = true) (hrc : rm.cells = mc) (hrs : rm.slots = ms) (hR : rm.frames + 1 ≤ R.frames ∧ 8 + (maxL + 11) + rm.locals ≤ R.locals)
    (hstt : (Cond.static y).before args s = true) (hini : (Cond.initialized y.cls).before args s = true) (hlink : (Cond.methodLink own index y).before args s = true) (hd : y.cls ≠ "java/lang/invoke/MethodHandle" ∧ y.cls ≠ "java/lang/invoke/VarHandle" ∧ (parseMethodDescriptor y.desc).map (fun d => d.parameters.length) = some n) (hp : PreS s H Pc As)
    (hg : g.method = m) (hn : As.length = n) (hsize : g.locals.size = nL) (hstack : g.stack = As.reverse ++ rest) (hW : 2 * g.monitorRoom + (rest.map fun v => v.category).sum ≤ 8) (hdg : decode cc g.pc = .ok (.invokestatic index, 3)) (hf : cells + mc ≤ R.cells ∧ slots + ms ≤ R.slots) :
    va_Run p l e R s m args below meth c H locs cells slots mc ms g rest (Qc As.toArray) free := by
  have hK : Back l R p e below s args y 3 8 (PreOf R mc ms Pc) (PostOf Qc mc ms free) := va_backW (bytes := bytes) (maxL := maxL) (ret := ret) (hh := hh) hM hp.1 hrc hrs hR.1 hR.2 hws hcw (fun a' U hW => word_at hW (Or.inl (by first | rfl | simp [Cond.onTables, Cond.keeps, Cond.steady])) hini)
  obtain ⟨hx, hb, hml, ho, -⟩ := S
  intro T hT X
  obtain ⟨mk, methM, cM, hnamed, hmethM, -, -, -, -, -, -, hsigM⟩ := Cond.codeWith_spec hcode
  have hstatic : methM.isStatic = true := Cond.static_spec hnamed hmethM hstt
  obtain ⟨kP, hkP, -⟩ := className_of_methodNamed hnamed
  have hinitP : kP.init = .initialized := Cond.initialized_spec (findClass_of_methodNamed hnamed) hkP hini
  have hlen : As.length = methM.sig.parameters.length := by
    have h2 := hd.2.2
    rw [hsigM] at h2
    exact hn.trans (Option.some.inj h2).symm
  obtain ⟨vm₁, X₁, hstep₁⟩ := X.invokestatic hx ho hlink hnamed hmethM hstatic hkP hinitP ⟨hd.1, hd.2.1⟩ (g := g) hg (argsL := As) (rest := rest) hlen hstack (by rw [hb]; exact hdg)
  obtain ⟨v, ⟨U', l2, c2, s2⟩, X', ⟨g', mk', t, L, e1, e2, hq, h1, hL, h2, h3⟩, hsteps⟩ := hK m meth c ⟨T.setVm vm₁, locs, cells, slots⟩ { g with stack := rest } (.invokestatic index) mk As.toArray X₁ hg (hsize.trans hml.symm) (by rw [hb]; exact hdg) hW (X₁.named hnamed) ⟨hf.1, hf.2, hp.2 (T.setVm vm₁) hT X₁.warmed⟩
  dsimp only [Pt.U, Pt.locs, Pt.cells, Pt.slots] at X' e1 e2 h1 h2 h3 hsteps
  subst h1; subst h2; subst h3
  exact ⟨v, (T.setVm vm₁).calling g' mk' As.toArray, t, U', L, hT, X', hL, e1, e2, hq, fun target h => hstep₁ _ fun acts => by rw [doInvoke_state]; exact hsteps.trans h⟩
theorem xs_hh {y : MethodName} {S : Spec} {s₁ : State} (B : BodyLoose p l y S cc maxL ret e s m args below meth c s₁) (h : (Cond.codeWith y cc maxL ret hh).before args s = true) : c.exceptionTable.toList.map (fun h => (h.startPc, h.endPc, h.handlerPc, h.catchType)) = hh := by
  obtain ⟨m9, meth', c', hn, hm', hc', -, -, he', -⟩ := Cond.codeWith_spec h
  cases B.named.symm.trans hn
  cases B.method.symm.trans hm'
  cases (Stand.of_body B).code.symm.trans hc'
  exact he'
end XS
abbrev y_Law_trim : MethodName := ⟨"PermitRulesLaw", "trim", "(LPermitRules;I[J)I"⟩
abbrev cw_Law_trim : Cond := .codeWith y_Law_trim method_4_code 4 (some .int) [(0, 9, 12, 13)]
set_option maxRecDepth 20000 in
theorem mw_Law_trim : cw_Law_trim ∈ bgw := mt_2 182 rfl (by decide +kernel)
theorem d_Law_trim_0 : decode method_4_code 0 = .ok (.aload_n 2, 1) := by decide +kernel
theorem d_Law_trim_1 : decode method_4_code 1 = .ok (.iconst 0, 1) := by decide +kernel
theorem d_Law_trim_2 : decode method_4_code 2 = .ok (.aload_n 0, 1) := by decide +kernel
theorem d_Law_trim_3 : decode method_4_code 3 = .ok (.iload_n 1, 1) := by decide +kernel
theorem d_Law_trim_4 : decode method_4_code 4 = .ok (.invokevirtual 17, 3) := by decide +kernel
theorem d_Law_trim_7 : decode method_4_code 7 = .ok (.i2l, 1) := by decide +kernel
theorem d_Law_trim_8 : decode method_4_code 8 = .ok (.lastore, 1) := by decide +kernel
theorem d_Law_trim_9 : decode method_4_code 9 = .ok (.goto 6, 3) := by decide +kernel
theorem d_Law_trim_12 : decode method_4_code 12 = .ok (.astore_n 3, 1) := by decide +kernel
theorem d_Law_trim_13 : decode method_4_code 13 = .ok (.iconst 1, 1) := by decide +kernel
theorem d_Law_trim_14 : decode method_4_code 14 = .ok (.ireturn, 1) := by decide +kernel
theorem d_Law_trim_15 : decode method_4_code 15 = .ok (.iconst 0, 1) := by decide +kernel
theorem d_Law_trim_16 : decode method_4_code 16 = .ok (.ireturn, 1) := by decide +kernel
abbrev y_Law_count : MethodName := ⟨"PermitRulesLaw", "count", "(LPermitRules;I[J)I"⟩
abbrev cw_Law_count : Cond := .codeWith y_Law_count method_12_code 4 (some .int) [(0, 9, 12, 13)]
set_option maxRecDepth 20000 in
theorem mw_Law_count : cw_Law_count ∈ bgw := mt_3 161 rfl (by decide +kernel)
theorem d_Law_count_0 : decode method_12_code 0 = .ok (.aload_n 2, 1) := by decide +kernel
theorem d_Law_count_1 : decode method_12_code 1 = .ok (.iconst 0, 1) := by decide +kernel
theorem d_Law_count_2 : decode method_12_code 2 = .ok (.aload_n 0, 1) := by decide +kernel
theorem d_Law_count_3 : decode method_12_code 3 = .ok (.iload_n 1, 1) := by decide +kernel
theorem d_Law_count_4 : decode method_12_code 4 = .ok (.invokevirtual 46, 3) := by decide +kernel
theorem d_Law_count_7 : decode method_12_code 7 = .ok (.i2l, 1) := by decide +kernel
theorem d_Law_count_8 : decode method_12_code 8 = .ok (.lastore, 1) := by decide +kernel
theorem d_Law_count_9 : decode method_12_code 9 = .ok (.goto 6, 3) := by decide +kernel
theorem d_Law_count_12 : decode method_12_code 12 = .ok (.astore_n 3, 1) := by decide +kernel
theorem d_Law_count_13 : decode method_12_code 13 = .ok (.iconst 1, 1) := by decide +kernel
theorem d_Law_count_14 : decode method_12_code 14 = .ok (.ireturn, 1) := by decide +kernel
theorem d_Law_count_15 : decode method_12_code 15 = .ok (.iconst 0, 1) := by decide +kernel
theorem d_Law_count_16 : decode method_12_code 16 = .ok (.ireturn, 1) := by decide +kernel
abbrev y_Law_rule : MethodName := ⟨"PermitRulesLaw", "rule", "(LPermitRules;J[J)I"⟩
abbrev cw_Law_rule : Cond := .codeWith y_Law_rule method_8_code 5 (some .int) [(0, 9, 12, 13)]
set_option maxRecDepth 20000 in
theorem mw_Law_rule : cw_Law_rule ∈ bgw := mt_3 117 rfl (by decide +kernel)
theorem d_Law_rule_0 : decode method_8_code 0 = .ok (.aload_n 3, 1) := by decide +kernel
theorem d_Law_rule_1 : decode method_8_code 1 = .ok (.iconst 0, 1) := by decide +kernel
theorem d_Law_rule_2 : decode method_8_code 2 = .ok (.aload_n 0, 1) := by decide +kernel
theorem d_Law_rule_3 : decode method_8_code 3 = .ok (.lload_n 1, 1) := by decide +kernel
theorem d_Law_rule_4 : decode method_8_code 4 = .ok (.invokevirtual 32, 3) := by decide +kernel
theorem d_Law_rule_7 : decode method_8_code 7 = .ok (.i2l, 1) := by decide +kernel
theorem d_Law_rule_8 : decode method_8_code 8 = .ok (.lastore, 1) := by decide +kernel
theorem d_Law_rule_9 : decode method_8_code 9 = .ok (.goto 7, 3) := by decide +kernel
theorem d_Law_rule_12 : decode method_8_code 12 = .ok (.astore 4, 2) := by decide +kernel
theorem d_Law_rule_14 : decode method_8_code 14 = .ok (.iconst 1, 1) := by decide +kernel
theorem d_Law_rule_15 : decode method_8_code 15 = .ok (.ireturn, 1) := by decide +kernel
theorem d_Law_rule_16 : decode method_8_code 16 = .ok (.iconst 0, 1) := by decide +kernel
theorem d_Law_rule_17 : decode method_8_code 17 = .ok (.ireturn, 1) := by decide +kernel
abbrev y_Law_told : MethodName := ⟨"PermitRulesLaw", "told", "(LPermitRules;II[J)I"⟩
abbrev cw_Law_told : Cond := .codeWith y_Law_told method_9_code 5 (some .int) [(0, 9, 12, 13), (0, 9, 16, 15)]
set_option maxRecDepth 20000 in
theorem mw_Law_told : cw_Law_told ∈ bgw := mt_3 125 rfl (by decide +kernel)
theorem d_Law_told_0 : decode method_9_code 0 = .ok (.aload_n 3, 1) := by decide +kernel
theorem d_Law_told_1 : decode method_9_code 1 = .ok (.iconst 0, 1) := by decide +kernel
theorem d_Law_told_2 : decode method_9_code 2 = .ok (.aload_n 0, 1) := by decide +kernel
theorem d_Law_told_3 : decode method_9_code 3 = .ok (.iload_n 1, 1) := by decide +kernel
theorem d_Law_told_4 : decode method_9_code 4 = .ok (.iload_n 2, 1) := by decide +kernel
theorem d_Law_told_5 : decode method_9_code 5 = .ok (.invokevirtual 35, 3) := by decide +kernel
theorem d_Law_told_8 : decode method_9_code 8 = .ok (.lastore, 1) := by decide +kernel
theorem d_Law_told_9 : decode method_9_code 9 = .ok (.goto 11, 3) := by decide +kernel
theorem d_Law_told_12 : decode method_9_code 12 = .ok (.astore 4, 2) := by decide +kernel
theorem d_Law_told_14 : decode method_9_code 14 = .ok (.iconst 1, 1) := by decide +kernel
theorem d_Law_told_15 : decode method_9_code 15 = .ok (.ireturn, 1) := by decide +kernel
theorem d_Law_told_16 : decode method_9_code 16 = .ok (.astore 4, 2) := by decide +kernel
theorem d_Law_told_18 : decode method_9_code 18 = .ok (.iconst 2, 1) := by decide +kernel
theorem d_Law_told_19 : decode method_9_code 19 = .ok (.ireturn, 1) := by decide +kernel
theorem d_Law_told_20 : decode method_9_code 20 = .ok (.iconst 0, 1) := by decide +kernel
theorem d_Law_told_21 : decode method_9_code 21 = .ok (.ireturn, 1) := by decide +kernel
abbrev y_Law_broken : MethodName := ⟨"PermitRulesLaw", "broken", "(LPermitRules;I[J)I"⟩
abbrev cw_Law_broken : Cond := .codeWith y_Law_broken method_10_code 4 (some .int) [(0, 9, 12, 13), (0, 9, 15, 15)]
set_option maxRecDepth 20000 in
theorem mw_Law_broken : cw_Law_broken ∈ bgw := mt_3 139 rfl (by decide +kernel)
theorem d_Law_broken_0 : decode method_10_code 0 = .ok (.aload_n 2, 1) := by decide +kernel
theorem d_Law_broken_1 : decode method_10_code 1 = .ok (.iconst 0, 1) := by decide +kernel
theorem d_Law_broken_2 : decode method_10_code 2 = .ok (.aload_n 0, 1) := by decide +kernel
theorem d_Law_broken_3 : decode method_10_code 3 = .ok (.iload_n 1, 1) := by decide +kernel
theorem d_Law_broken_4 : decode method_10_code 4 = .ok (.invokevirtual 39, 3) := by decide +kernel
theorem d_Law_broken_7 : decode method_10_code 7 = .ok (.i2l, 1) := by decide +kernel
theorem d_Law_broken_8 : decode method_10_code 8 = .ok (.lastore, 1) := by decide +kernel
theorem d_Law_broken_9 : decode method_10_code 9 = .ok (.goto 9, 3) := by decide +kernel
theorem d_Law_broken_12 : decode method_10_code 12 = .ok (.astore_n 3, 1) := by decide +kernel
theorem d_Law_broken_13 : decode method_10_code 13 = .ok (.iconst 1, 1) := by decide +kernel
theorem d_Law_broken_14 : decode method_10_code 14 = .ok (.ireturn, 1) := by decide +kernel
theorem d_Law_broken_15 : decode method_10_code 15 = .ok (.astore_n 3, 1) := by decide +kernel
theorem d_Law_broken_16 : decode method_10_code 16 = .ok (.iconst 2, 1) := by decide +kernel
theorem d_Law_broken_17 : decode method_10_code 17 = .ok (.ireturn, 1) := by decide +kernel
theorem d_Law_broken_18 : decode method_10_code 18 = .ok (.iconst 0, 1) := by decide +kernel
theorem d_Law_broken_19 : decode method_10_code 19 = .ok (.ireturn, 1) := by decide +kernel
abbrev y_Law_forget : MethodName := ⟨"PermitRulesLaw", "forget", "(LPermitRules;J[J)I"⟩
abbrev cw_Law_forget : Cond := .codeWith y_Law_forget method_6_code 5 (some .int) [(0, 8, 11, 13)]
set_option maxRecDepth 20000 in
theorem mw_Law_forget : cw_Law_forget ∈ bgw := mt_2 226 rfl (by decide +kernel)
theorem d_Law_forget_0 : decode method_6_code 0 = .ok (.aload_n 3, 1) := by decide +kernel
theorem d_Law_forget_1 : decode method_6_code 1 = .ok (.iconst 0, 1) := by decide +kernel
theorem d_Law_forget_2 : decode method_6_code 2 = .ok (.aload_n 0, 1) := by decide +kernel
theorem d_Law_forget_3 : decode method_6_code 3 = .ok (.lload_n 1, 1) := by decide +kernel
theorem d_Law_forget_4 : decode method_6_code 4 = .ok (.invokevirtual 25, 3) := by decide +kernel
theorem d_Law_forget_7 : decode method_6_code 7 = .ok (.lastore, 1) := by decide +kernel
theorem d_Law_forget_8 : decode method_6_code 8 = .ok (.goto 7, 3) := by decide +kernel
theorem d_Law_forget_11 : decode method_6_code 11 = .ok (.astore 4, 2) := by decide +kernel
theorem d_Law_forget_13 : decode method_6_code 13 = .ok (.iconst 1, 1) := by decide +kernel
theorem d_Law_forget_14 : decode method_6_code 14 = .ok (.ireturn, 1) := by decide +kernel
theorem d_Law_forget_15 : decode method_6_code 15 = .ok (.iconst 0, 1) := by decide +kernel
theorem d_Law_forget_16 : decode method_6_code 16 = .ok (.ireturn, 1) := by decide +kernel
abbrev y_Law_fact : MethodName := ⟨"PermitRulesLaw", "fact", "(LPermitRules;JI[J)I"⟩
abbrev cw_Law_fact : Cond := .codeWith y_Law_fact method_5_code 6 (some .int) [(0, 10, 13, 13), (0, 10, 17, 15)]
set_option maxRecDepth 20000 in
theorem mw_Law_fact : cw_Law_fact ∈ bgw := mt_2 190 rfl (by decide +kernel)
theorem d_Law_fact_0 : decode method_5_code 0 = .ok (.aload 4, 2) := by decide +kernel
theorem d_Law_fact_2 : decode method_5_code 2 = .ok (.iconst 0, 1) := by decide +kernel
theorem d_Law_fact_3 : decode method_5_code 3 = .ok (.aload_n 0, 1) := by decide +kernel
theorem d_Law_fact_4 : decode method_5_code 4 = .ok (.lload_n 1, 1) := by decide +kernel
theorem d_Law_fact_5 : decode method_5_code 5 = .ok (.iload_n 3, 1) := by decide +kernel
theorem d_Law_fact_6 : decode method_5_code 6 = .ok (.invokevirtual 21, 3) := by decide +kernel
theorem d_Law_fact_9 : decode method_5_code 9 = .ok (.lastore, 1) := by decide +kernel
theorem d_Law_fact_10 : decode method_5_code 10 = .ok (.goto 11, 3) := by decide +kernel
theorem d_Law_fact_13 : decode method_5_code 13 = .ok (.astore 5, 2) := by decide +kernel
theorem d_Law_fact_15 : decode method_5_code 15 = .ok (.iconst 1, 1) := by decide +kernel
theorem d_Law_fact_16 : decode method_5_code 16 = .ok (.ireturn, 1) := by decide +kernel
theorem d_Law_fact_17 : decode method_5_code 17 = .ok (.astore 5, 2) := by decide +kernel
theorem d_Law_fact_19 : decode method_5_code 19 = .ok (.iconst 2, 1) := by decide +kernel
theorem d_Law_fact_20 : decode method_5_code 20 = .ok (.ireturn, 1) := by decide +kernel
theorem d_Law_fact_21 : decode method_5_code 21 = .ok (.iconst 0, 1) := by decide +kernel
theorem d_Law_fact_22 : decode method_5_code 22 = .ok (.ireturn, 1) := by decide +kernel
abbrev y_Law_say : MethodName := ⟨"PermitRulesLaw", "say", "(LPermitRules;J[J)I"⟩
abbrev cw_Law_say : Cond := .codeWith y_Law_say method_3_code 5 (some .int) [(0, 9, 12, 13), (0, 9, 16, 15)]
set_option maxRecDepth 20000 in
theorem mw_Law_say : cw_Law_say ∈ bgw := mt_2 81 rfl (by decide +kernel)
theorem d_Law_say_0 : decode method_3_code 0 = .ok (.aload_n 3, 1) := by decide +kernel
theorem d_Law_say_1 : decode method_3_code 1 = .ok (.iconst 0, 1) := by decide +kernel
theorem d_Law_say_2 : decode method_3_code 2 = .ok (.aload_n 0, 1) := by decide +kernel
theorem d_Law_say_3 : decode method_3_code 3 = .ok (.lload_n 1, 1) := by decide +kernel
theorem d_Law_say_4 : decode method_3_code 4 = .ok (.invokevirtual 7, 3) := by decide +kernel
theorem d_Law_say_7 : decode method_3_code 7 = .ok (.i2l, 1) := by decide +kernel
theorem d_Law_say_8 : decode method_3_code 8 = .ok (.lastore, 1) := by decide +kernel
theorem d_Law_say_9 : decode method_3_code 9 = .ok (.goto 11, 3) := by decide +kernel
theorem d_Law_say_12 : decode method_3_code 12 = .ok (.astore 4, 2) := by decide +kernel
theorem d_Law_say_14 : decode method_3_code 14 = .ok (.iconst 1, 1) := by decide +kernel
theorem d_Law_say_15 : decode method_3_code 15 = .ok (.ireturn, 1) := by decide +kernel
theorem d_Law_say_16 : decode method_3_code 16 = .ok (.astore 4, 2) := by decide +kernel
theorem d_Law_say_18 : decode method_3_code 18 = .ok (.iconst 2, 1) := by decide +kernel
theorem d_Law_say_19 : decode method_3_code 19 = .ok (.ireturn, 1) := by decide +kernel
theorem d_Law_say_20 : decode method_3_code 20 = .ok (.iconst 0, 1) := by decide +kernel
theorem d_Law_say_21 : decode method_3_code 21 = .ok (.ireturn, 1) := by decide +kernel
abbrev y_Law_run : MethodName := ⟨"PermitRulesLaw", "run", "(LPermitRules;I[J)I"⟩
abbrev cw_Law_run : Cond := .codeWith y_Law_run method_7_code 4 (some .int) [(0, 9, 12, 13)]
set_option maxRecDepth 20000 in
theorem mw_Law_run : cw_Law_run ∈ bgw := mt_2 237 rfl (by decide +kernel)
theorem d_Law_run_0 : decode method_7_code 0 = .ok (.aload_n 2, 1) := by decide +kernel
theorem d_Law_run_1 : decode method_7_code 1 = .ok (.iconst 0, 1) := by decide +kernel
theorem d_Law_run_2 : decode method_7_code 2 = .ok (.aload_n 0, 1) := by decide +kernel
theorem d_Law_run_3 : decode method_7_code 3 = .ok (.iload_n 1, 1) := by decide +kernel
theorem d_Law_run_4 : decode method_7_code 4 = .ok (.invokevirtual 29, 3) := by decide +kernel
theorem d_Law_run_7 : decode method_7_code 7 = .ok (.i2l, 1) := by decide +kernel
theorem d_Law_run_8 : decode method_7_code 8 = .ok (.lastore, 1) := by decide +kernel
theorem d_Law_run_9 : decode method_7_code 9 = .ok (.goto 6, 3) := by decide +kernel
theorem d_Law_run_12 : decode method_7_code 12 = .ok (.astore_n 3, 1) := by decide +kernel
theorem d_Law_run_13 : decode method_7_code 13 = .ok (.iconst 1, 1) := by decide +kernel
theorem d_Law_run_14 : decode method_7_code 14 = .ok (.ireturn, 1) := by decide +kernel
theorem d_Law_run_15 : decode method_7_code 15 = .ok (.iconst 0, 1) := by decide +kernel
theorem d_Law_run_16 : decode method_7_code 16 = .ok (.ireturn, 1) := by decide +kernel
abbrev y_Law_suggest : MethodName := ⟨"PermitRulesLaw", "suggest", "(LPermitRules;IJI[J)I"⟩
abbrev cw_Law_suggest : Cond := .codeWith y_Law_suggest method_11_code 7 (some .int) [(0, 12, 15, 13), (0, 12, 19, 15)]
set_option maxRecDepth 20000 in
theorem mw_Law_suggest : cw_Law_suggest ∈ bgw := mt_3 148 rfl (by decide +kernel)
theorem d_Law_suggest_0 : decode method_11_code 0 = .ok (.aload 5, 2) := by decide +kernel
theorem d_Law_suggest_2 : decode method_11_code 2 = .ok (.iconst 0, 1) := by decide +kernel
theorem d_Law_suggest_3 : decode method_11_code 3 = .ok (.aload_n 0, 1) := by decide +kernel
theorem d_Law_suggest_4 : decode method_11_code 4 = .ok (.iload_n 1, 1) := by decide +kernel
theorem d_Law_suggest_5 : decode method_11_code 5 = .ok (.lload_n 2, 1) := by decide +kernel
theorem d_Law_suggest_6 : decode method_11_code 6 = .ok (.iload 4, 2) := by decide +kernel
theorem d_Law_suggest_8 : decode method_11_code 8 = .ok (.invokevirtual 42, 3) := by decide +kernel
theorem d_Law_suggest_11 : decode method_11_code 11 = .ok (.lastore, 1) := by decide +kernel
theorem d_Law_suggest_12 : decode method_11_code 12 = .ok (.goto 11, 3) := by decide +kernel
theorem d_Law_suggest_15 : decode method_11_code 15 = .ok (.astore 6, 2) := by decide +kernel
theorem d_Law_suggest_17 : decode method_11_code 17 = .ok (.iconst 1, 1) := by decide +kernel
theorem d_Law_suggest_18 : decode method_11_code 18 = .ok (.ireturn, 1) := by decide +kernel
theorem d_Law_suggest_19 : decode method_11_code 19 = .ok (.astore 6, 2) := by decide +kernel
theorem d_Law_suggest_21 : decode method_11_code 21 = .ok (.iconst 2, 1) := by decide +kernel
theorem d_Law_suggest_22 : decode method_11_code 22 = .ok (.ireturn, 1) := by decide +kernel
theorem d_Law_suggest_23 : decode method_11_code 23 = .ok (.iconst 0, 1) := by decide +kernel
theorem d_Law_suggest_24 : decode method_11_code 24 = .ok (.ireturn, 1) := by decide +kernel
theorem n2_PR_trim (n_ tl r : Int32) (u : Int32) : ¬ f_PR_trim n_ tl = (2, r, u) := by
  unfold f_PR_trim
  intro h
  split at h
  · injection h with h1 h2; exact absurd h1 (by decide)
  · split at h
    · injection h with h1 h2; exact absurd h1 (by decide)
    · injection h with h1 h2; exact absurd h1 (by decide)
theorem n2_PR_count (wh tl fz rc cc_ r : Int32) : ¬ f_PR_count wh tl fz rc cc_ = (2, r) := by
  unfold f_PR_count
  intro h
  split at h
  · injection h with h1 h2; exact absurd h1 (by decide)
  · split at h
    · injection h with h1 h2; exact absurd h1 (by decide)
    · split at h
      · injection h with h1 h2; exact absurd h1 (by decide)
      · split at h
        · injection h with h1 h2; exact absurd h1 (by decide)
        · injection h with h1 h2; exact absurd h1 (by decide)
theorem n2_PR_rule (nm : Int64) (rc : Int32) (bn : Nat → Int64) (r : Int32) : ¬ f_PR_rule nm rc bn = (2, r) := by
  unfold f_PR_rule
  simp only [lt_]
  intro h
  split at h
  · injection h with h1 h2; exact absurd h1 (by decide)
  · injection h with h1 h2; exact absurd h1 (by decide)
theorem n2_PR_forget (nm : Int64) (fz : Int32) (fn : Nat → Int64) (fv : Nat → Int32) (r : Int64) (u : Int32 × (Nat → Int64) × (Nat → Int32)) : ¬ f_PR_forget nm fz fn fv = (2, r, u) := by
  unfold f_PR_forget
  simp only [lt_]
  intro h
  split at h
  · injection h with h1 h2; exact absurd h1 (by decide)
  · split at h
    · injection h with h1 h2; exact absurd h1 (by decide)
    · injection h with h1 h2; exact absurd h1 (by decide)
theorem n2_runL (dy : Int32) (as_ : Int32) (ad : Int32) (an : (Nat → Int64)) (fz : Int32) (fn : (Nat → Int64)) (fv : (Nat → Int32)) (js : Int32) (j1 : Int64) (j2 : Int64) (j3 : Int64) (j4 : Int64) (pe : Int32) (wy : Int32) (mi : Int64) (ru : (Nat → Int64)) (rl : (Nat → Int64)) (rc : Int32) (bd : (Nat → Int64)) (bc : (Nat → Int32)) (bs : (Nat → Int32)) (bl : (Nat → Int32)) (br : (Nat → Int32)) (bk : (Nat → Int32)) (bw : (Nat → Int64)) :
    ∀ (n : Nat) (i bo : Int32) (xa : Nat → Int64) (xs_ : Int32) (x1 x2 x3 x4 : Int64) (xe xy : Int32) (xi : Int64) (xu xl : Nat → Int64), (f_PR_run_L34 dy as_ ad an fz fn fv js j1 j2 j3 j4 pe wy mi ru rl rc bd bc bs bl br bk bw n i bo xa xs_ x1 x2 x3 x4 xe xy xi xu xl).1 = 0 := by
  intro n
  induction n with
  | zero => intros; rfl
  | succ n ih =>
    intro i bo xa xs_ x1 x2 x3 x4 xe xy xi xu xl
    rw [f_PR_run_L34_s]
    split
    · rfl
    · simp only [lt_]
      split
      · exact ih _ _ _ _ _ _ _ _ _ _ _ _ _
      · exact ih _ _ _ _ _ _ _ _ _ _ _ _ _
theorem n2_PR_run (dy : Int32) (as_ : Int32) (ad : Int32) (an : (Nat → Int64)) (fz : Int32) (fn : (Nat → Int64)) (fv : (Nat → Int32)) (js : Int32) (j1 : Int64) (j2 : Int64) (j3 : Int64) (j4 : Int64) (pe : Int32) (wy : Int32) (mi : Int64) (ru : (Nat → Int64)) (rl : (Nat → Int64)) (rc : Int32) (bd : (Nat → Int64)) (bc : (Nat → Int32)) (bs : (Nat → Int32)) (bl : (Nat → Int32)) (br : (Nat → Int32)) (bk : (Nat → Int32)) (bw : (Nat → Int64)) (r : Int32) (u : Int32 × Int32 × (Nat → Int64) × Int32 × Int64 × Int64 × Int64 × Int64 × Int32 × Int32 × Int64 × (Nat → Int64) × (Nat → Int64)) :
    ¬ f_PR_run dy as_ ad an fz fn fv js j1 j2 j3 j4 pe wy mi ru rl rc bd bc bs bl br bk bw = (2, r, u) := by
  intro h
  have h1 : (f_PR_run dy as_ ad an fz fn fv js j1 j2 j3 j4 pe wy mi ru rl rc bd bc bs bl br bk bw).1 = 2 := by rw [h]
  unfold f_PR_run at h1
  split at h1
  · exact absurd (show (1 : Int32) = 2 from h1) (by decide)
  · split at h1
    · rw [n2_runL] at h1; exact absurd h1 (by decide)
    · exact absurd (show (1 : Int32) = 2 from h1) (by decide)
