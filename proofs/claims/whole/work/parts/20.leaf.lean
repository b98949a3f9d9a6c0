def f_PR_byteAt (wd : Int64) (sh : Int32) : Int32 := (((wd.toUInt64 >>> (sh.toInt64.toUInt64 &&& Int64.toUInt64 63)).toInt64).toInt32) &&& 255
abbrev q_PR_byteAt (dC : Nat → ClassId) (dI : Nat → Nat → Nat) (cB cI cJ : ClassId) (wd : Int64) (sh : Int32) (A : Nat → Prop) : Array Value → State → Outcome → State → Prop := va_Qi (fun (r : Int32) (u : Unit) => r = f_PR_byteAt wd sh) (fun u t => va_P (dC, dI) vwCl [] t.heap ∧ va_D A []) A
set_option maxHeartbeats 4000000 in
set_option maxRecDepth 100000 in
theorem c_PR_byteAt (l : Launch) (dC : Nat → ClassId) (dI : Nat → Nat → Nat) (cB cI cJ : ClassId) (sz : Nat) (wd : Int64) (sh : Int32) : Met l y_PR_byteAt (cw_PR_byteAt :: bgw) { frames := 0, cells := 0, slots := 0, locals := 0 } (va_Pc [.long wd, .int sh] (kb_B dC dI cB cI cJ [] sz)) (q_PR_byteAt dC dI cB cI cJ wd sh (va_A [] sz)) 0 0 (va_A [] sz) := by
  refine Met.ofW (cc := prog_1_method_17_code) (maxL := 3) (ret := (some .int)) (by decide) rfl ?_
  intro p e s m args below meth c s₁ B hml hv
  obtain ⟨rfl, hsz, hP, hKx, hD0⟩ := hv
  have hx := B.exec
  have hb := B.bytes
  have hr := B.returns
  have hts := atoms_spec (ws := (cw_PR_byteAt :: bgw)) B.pre
  have hown : s.vm.findClass "PermitRules" = some m.cls := findClass_of_methodNamed B.named
  have hlocks := B.notSynchronized
  have htb := fun (w : Cond) (h : w ∈ bgw) => hts w (List.mem_cons_of_mem _ h)
  have hK := hKx.1
  subst hsz
  have hD := hD0.self (sz := s.heap.size)
  generalize hAe : va_A [] s.heap.size = A at hD ⊢
  have hA : ∀ q : Nat, s.heap.size ≤ q → A q := fun q h => by rw [← hAe]; exact Or.inr h
  have hS : va_S A s.heap s.heap [] := va_S.rf
  have hl := lv_entry ([.long wd, .int sh]) (n := 3) (Nat.le_of_ble_eq_true rfl)
  rw [lg_entry_eq]
  generalize (lg_sl ([.long wd, .int sh]) ++ List.replicate (3 - (lg_sl ([.long wd, .int sh])).length) Slot.unset).toArray = ls at hl ⊢
  have hl : lv_has ls 3 [(0, .long wd), (2, .int sh)] := hl
  have hP : va_P (dC, dI) vwCl [] s.heap := hP
  have hF : f_PR_byteAt wd sh = (((wd.toUInt64 >>> (sh.toInt64.toUInt64 &&& Int64.toUInt64 63)).toInt64).toInt32) &&& 255 := rfl
  refine lv_lload_n hx hb d_PR_byteAt_0 rfl (lv_at hl 0 rfl) ?_
  refine lv_iload_n hx hb d_PR_byteAt_1 rfl (lv_at hl 1 rfl) ?_
  refine lv_lushr (v := (wd.toUInt64 >>> (sh.toInt64.toUInt64 &&& Int64.toUInt64 63)).toInt64) hx hb d_PR_byteAt_2 rfl ?_
  refine lv_l2i (v := ((wd.toUInt64 >>> (sh.toInt64.toUInt64 &&& Int64.toUInt64 63)).toInt64).toInt32) hx hb d_PR_byteAt_3 rfl ?_
  refine lv_sipush (v := 255) hx hb d_PR_byteAt_4 (by decide) ?_
  refine lv_iand hx hb d_PR_byteAt_7 ?_
  have hP9 := hP.sub (ws' := []) [] rfl
  have hD9 := hD.sub (ws' := []) [] (by decide) rfl
  exact W.iret (v := (((wd.toUInt64 >>> (sh.toInt64.toUInt64 &&& Int64.toUInt64 63)).toInt64).toInt32) &&& 255) hx hb hr (fun t ht hW => ⟨⟨(((wd.toUInt64 >>> (sh.toInt64.toUInt64 &&& Int64.toUInt64 63)).toInt64).toInt32) &&& 255, (), rfl, by rw [hF], by rw [ht]; exact hP9, hD9⟩, hS.F ht⟩) hS.2.2 d_PR_byteAt_8
def f_PR_isLetter (ch : Int32) : Int32 := (if ch < 97 then 0 else (if 122 < ch then 0 else 1))
abbrev q_PR_isLetter (dC : Nat → ClassId) (dI : Nat → Nat → Nat) (cB cI cJ : ClassId) (ch : Int32) (A : Nat → Prop) : Array Value → State → Outcome → State → Prop := va_Qi (fun (r : Int32) (u : Unit) => r = f_PR_isLetter ch) (fun u t => va_P (dC, dI) vwCl [] t.heap ∧ va_D A []) A
set_option maxHeartbeats 4000000 in
set_option maxRecDepth 100000 in
theorem c_PR_isLetter (l : Launch) (dC : Nat → ClassId) (dI : Nat → Nat → Nat) (cB cI cJ : ClassId) (sz : Nat) (ch : Int32) : Met l y_PR_isLetter (cw_PR_isLetter :: bgw) { frames := 0, cells := 0, slots := 0, locals := 0 } (va_Pc [.int ch] (kb_B dC dI cB cI cJ [] sz)) (q_PR_isLetter dC dI cB cI cJ ch (va_A [] sz)) 0 0 (va_A [] sz) := by
  refine Met.ofW (cc := prog_1_method_21_code) (maxL := 1) (ret := (some .boolean)) (by decide) rfl ?_
  intro p e s m args below meth c s₁ B hml hv
  obtain ⟨rfl, hsz, hP, hKx, hD0⟩ := hv
  have hx := B.exec
  have hb := B.bytes
  have hr := B.returns
  have hts := atoms_spec (ws := (cw_PR_isLetter :: bgw)) B.pre
  have hown : s.vm.findClass "PermitRules" = some m.cls := findClass_of_methodNamed B.named
  have hlocks := B.notSynchronized
  have htb := fun (w : Cond) (h : w ∈ bgw) => hts w (List.mem_cons_of_mem _ h)
  have hK := hKx.1
  subst hsz
  have hD := hD0.self (sz := s.heap.size)
  generalize hAe : va_A [] s.heap.size = A at hD ⊢
  have hA : ∀ q : Nat, s.heap.size ≤ q → A q := fun q h => by rw [← hAe]; exact Or.inr h
  have hS : va_S A s.heap s.heap [] := va_S.rf
  have hl := lv_entry ([.int ch]) (n := 1) (Nat.le_of_ble_eq_true rfl)
  rw [lg_entry_eq]
  generalize (lg_sl ([.int ch]) ++ List.replicate (1 - (lg_sl ([.int ch])).length) Slot.unset).toArray = ls at hl ⊢
  have hl : lv_has ls 1 [(0, .int ch)] := hl
  have hP : va_P (dC, dI) vwCl [] s.heap := hP
  have hF : f_PR_isLetter ch = (if ch < 97 then 0 else (if 122 < ch then 0 else 1)) := rfl
  refine lv_iload_n hx hb d_PR_isLetter_0 rfl (lv_at hl 0 rfl) ?_
  refine lv_bipush (v := 97) hx hb d_PR_isLetter_1 (by decide) ?_
  refine lv_icmp_lt (tgt := 16) hx hb d_PR_isLetter_3 (by decide) (fun c_1 => ?_) (fun c_1 => ?_)
  · have hF := hF.trans (if_pos c_1)
    refine lv_iconst (v := 0) hx hb d_PR_isLetter_16 (by decide) ?_
    have hP9 := hP.sub (ws' := []) [] rfl
    have hD9 := hD.sub (ws' := []) [] (by decide) rfl
    exact W.zret (v := (0 : Int32)) hx hb hr (rfl) (fun t ht hW => ⟨⟨(0 : Int32), (), rfl, by rw [hF], by rw [ht]; exact hP9, hD9⟩, hS.F ht⟩) hS.2.2 d_PR_isLetter_17
  · have hF := hF.trans (if_neg c_1)
    refine lv_iload_n hx hb d_PR_isLetter_6 rfl (lv_at hl 0 rfl) ?_
    refine lv_bipush (v := 122) hx hb d_PR_isLetter_7 (by decide) ?_
    refine lv_icmp_gt (tgt := 16) hx hb d_PR_isLetter_9 (by decide) (fun c_2 => ?_) (fun c_2 => ?_)
    · have hF := hF.trans (if_pos c_2)
      refine lv_iconst (v := 0) hx hb d_PR_isLetter_16 (by decide) ?_
      have hP9 := hP.sub (ws' := []) [] rfl
      have hD9 := hD.sub (ws' := []) [] (by decide) rfl
      exact W.zret (v := (0 : Int32)) hx hb hr (rfl) (fun t ht hW => ⟨⟨(0 : Int32), (), rfl, by rw [hF], by rw [ht]; exact hP9, hD9⟩, hS.F ht⟩) hS.2.2 d_PR_isLetter_17
    · have hF := hF.trans (if_neg c_2)
      refine lv_iconst (v := 1) hx hb d_PR_isLetter_12 (by decide) ?_
      refine lv_goto (tgt := 17) hx hb d_PR_isLetter_13 (by decide) ?_
      have hP9 := hP.sub (ws' := []) [] rfl
      have hD9 := hD.sub (ws' := []) [] (by decide) rfl
      exact W.zret (v := (1 : Int32)) hx hb hr (rfl) (fun t ht hW => ⟨⟨(1 : Int32), (), rfl, by rw [hF], by rw [ht]; exact hP9, hD9⟩, hS.F ht⟩) hS.2.2 d_PR_isLetter_17
def f_PR_isDigit (ch : Int32) : Int32 := (if ch < 48 then 0 else (if 57 < ch then 0 else 1))
abbrev q_PR_isDigit (dC : Nat → ClassId) (dI : Nat → Nat → Nat) (cB cI cJ : ClassId) (ch : Int32) (A : Nat → Prop) : Array Value → State → Outcome → State → Prop := va_Qi (fun (r : Int32) (u : Unit) => r = f_PR_isDigit ch) (fun u t => va_P (dC, dI) vwCl [] t.heap ∧ va_D A []) A
set_option maxHeartbeats 4000000 in
set_option maxRecDepth 100000 in
theorem c_PR_isDigit (l : Launch) (dC : Nat → ClassId) (dI : Nat → Nat → Nat) (cB cI cJ : ClassId) (sz : Nat) (ch : Int32) : Met l y_PR_isDigit (cw_PR_isDigit :: bgw) { frames := 0, cells := 0, slots := 0, locals := 0 } (va_Pc [.int ch] (kb_B dC dI cB cI cJ [] sz)) (q_PR_isDigit dC dI cB cI cJ ch (va_A [] sz)) 0 0 (va_A [] sz) := by
  refine Met.ofW (cc := prog_1_method_22_code) (maxL := 1) (ret := (some .boolean)) (by decide) rfl ?_
  intro p e s m args below meth c s₁ B hml hv
  obtain ⟨rfl, hsz, hP, hKx, hD0⟩ := hv
  have hx := B.exec
  have hb := B.bytes
  have hr := B.returns
  have hts := atoms_spec (ws := (cw_PR_isDigit :: bgw)) B.pre
  have hown : s.vm.findClass "PermitRules" = some m.cls := findClass_of_methodNamed B.named
  have hlocks := B.notSynchronized
  have htb := fun (w : Cond) (h : w ∈ bgw) => hts w (List.mem_cons_of_mem _ h)
  have hK := hKx.1
  subst hsz
  have hD := hD0.self (sz := s.heap.size)
  generalize hAe : va_A [] s.heap.size = A at hD ⊢
  have hA : ∀ q : Nat, s.heap.size ≤ q → A q := fun q h => by rw [← hAe]; exact Or.inr h
  have hS : va_S A s.heap s.heap [] := va_S.rf
  have hl := lv_entry ([.int ch]) (n := 1) (Nat.le_of_ble_eq_true rfl)
  rw [lg_entry_eq]
  generalize (lg_sl ([.int ch]) ++ List.replicate (1 - (lg_sl ([.int ch])).length) Slot.unset).toArray = ls at hl ⊢
  have hl : lv_has ls 1 [(0, .int ch)] := hl
  have hP : va_P (dC, dI) vwCl [] s.heap := hP
  have hF : f_PR_isDigit ch = (if ch < 48 then 0 else (if 57 < ch then 0 else 1)) := rfl
  refine lv_iload_n hx hb d_PR_isDigit_0 rfl (lv_at hl 0 rfl) ?_
  refine lv_bipush (v := 48) hx hb d_PR_isDigit_1 (by decide) ?_
  refine lv_icmp_lt (tgt := 16) hx hb d_PR_isDigit_3 (by decide) (fun c_1 => ?_) (fun c_1 => ?_)
  · have hF := hF.trans (if_pos c_1)
    refine lv_iconst (v := 0) hx hb d_PR_isDigit_16 (by decide) ?_
    have hP9 := hP.sub (ws' := []) [] rfl
    have hD9 := hD.sub (ws' := []) [] (by decide) rfl
    exact W.zret (v := (0 : Int32)) hx hb hr (rfl) (fun t ht hW => ⟨⟨(0 : Int32), (), rfl, by rw [hF], by rw [ht]; exact hP9, hD9⟩, hS.F ht⟩) hS.2.2 d_PR_isDigit_17
  · have hF := hF.trans (if_neg c_1)
    refine lv_iload_n hx hb d_PR_isDigit_6 rfl (lv_at hl 0 rfl) ?_
    refine lv_bipush (v := 57) hx hb d_PR_isDigit_7 (by decide) ?_
    refine lv_icmp_gt (tgt := 16) hx hb d_PR_isDigit_9 (by decide) (fun c_2 => ?_) (fun c_2 => ?_)
    · have hF := hF.trans (if_pos c_2)
      refine lv_iconst (v := 0) hx hb d_PR_isDigit_16 (by decide) ?_
      have hP9 := hP.sub (ws' := []) [] rfl
      have hD9 := hD.sub (ws' := []) [] (by decide) rfl
      exact W.zret (v := (0 : Int32)) hx hb hr (rfl) (fun t ht hW => ⟨⟨(0 : Int32), (), rfl, by rw [hF], by rw [ht]; exact hP9, hD9⟩, hS.F ht⟩) hS.2.2 d_PR_isDigit_17
    · have hF := hF.trans (if_neg c_2)
      refine lv_iconst (v := 1) hx hb d_PR_isDigit_12 (by decide) ?_
      refine lv_goto (tgt := 17) hx hb d_PR_isDigit_13 (by decide) ?_
      have hP9 := hP.sub (ws' := []) [] rfl
      have hD9 := hD.sub (ws' := []) [] (by decide) rfl
      exact W.zret (v := (1 : Int32)) hx hb hr (rfl) (fun t ht hW => ⟨⟨(1 : Int32), (), rfl, by rw [hF], by rw [ht]; exact hP9, hD9⟩, hS.F ht⟩) hS.2.2 d_PR_isDigit_17
def f_PR_isValue (vl : Int32) : Int32 := (if vl < (-1000000000) then 0 else (if 1000000000 < vl then 0 else 1))
abbrev q_PR_isValue (dC : Nat → ClassId) (dI : Nat → Nat → Nat) (cB cI cJ : ClassId) (vl : Int32) (A : Nat → Prop) : Array Value → State → Outcome → State → Prop := va_Qi (fun (r : Int32) (u : Unit) => r = f_PR_isValue vl) (fun u t => va_P (dC, dI) vwCl [] t.heap ∧ va_D A []) A
set_option maxHeartbeats 4000000 in
set_option maxRecDepth 100000 in
theorem c_PR_isValue (l : Launch) (dC : Nat → ClassId) (dI : Nat → Nat → Nat) (cB cI cJ : ClassId) (sz : Nat) (vl : Int32) : Met l y_PR_isValue (cw_PR_isValue :: bgw) { frames := 0, cells := 0, slots := 0, locals := 0 } (va_Pc [.int vl] (kb_B dC dI cB cI cJ [] sz)) (q_PR_isValue dC dI cB cI cJ vl (va_A [] sz)) 0 0 (va_A [] sz) := by
  refine Met.ofW (cc := prog_1_method_20_code) (maxL := 1) (ret := (some .boolean)) (by decide) rfl ?_
  intro p e s m args below meth c s₁ B hml hv
  obtain ⟨rfl, hsz, hP, hKx, hD0⟩ := hv
  have hx := B.exec
  have hb := B.bytes
  have hr := B.returns
  have hts := atoms_spec (ws := (cw_PR_isValue :: bgw)) B.pre
  have hown : s.vm.findClass "PermitRules" = some m.cls := findClass_of_methodNamed B.named
  have hlocks := B.notSynchronized
  have htb := fun (w : Cond) (h : w ∈ bgw) => hts w (List.mem_cons_of_mem _ h)
  have hK := hKx.1
  subst hsz
  have hD := hD0.self (sz := s.heap.size)
  generalize hAe : va_A [] s.heap.size = A at hD ⊢
  have hA : ∀ q : Nat, s.heap.size ≤ q → A q := fun q h => by rw [← hAe]; exact Or.inr h
  have hS : va_S A s.heap s.heap [] := va_S.rf
  have hl := lv_entry ([.int vl]) (n := 1) (Nat.le_of_ble_eq_true rfl)
  rw [lg_entry_eq]
  generalize (lg_sl ([.int vl]) ++ List.replicate (1 - (lg_sl ([.int vl])).length) Slot.unset).toArray = ls at hl ⊢
  have hl : lv_has ls 1 [(0, .int vl)] := hl
  have hP : va_P (dC, dI) vwCl [] s.heap := hP
  have hF : f_PR_isValue vl = (if vl < (-1000000000) then 0 else (if 1000000000 < vl then 0 else 1)) := rfl
  refine lv_iload_n hx hb d_PR_isValue_0 rfl (lv_at hl 0 rfl) ?_
  refine lv_ldc (v := (-1000000000)) hx hb hown (htb _ mb_443) d_PR_isValue_1 ?_
  refine lv_icmp_lt (tgt := 16) hx hb d_PR_isValue_3 (by decide) (fun c_1 => ?_) (fun c_1 => ?_)
  · have hF := hF.trans (if_pos c_1)
    refine lv_iconst (v := 0) hx hb d_PR_isValue_16 (by decide) ?_
    have hP9 := hP.sub (ws' := []) [] rfl
    have hD9 := hD.sub (ws' := []) [] (by decide) rfl
    exact W.zret (v := (0 : Int32)) hx hb hr (rfl) (fun t ht hW => ⟨⟨(0 : Int32), (), rfl, by rw [hF], by rw [ht]; exact hP9, hD9⟩, hS.F ht⟩) hS.2.2 d_PR_isValue_17
  · have hF := hF.trans (if_neg c_1)
    refine lv_iload_n hx hb d_PR_isValue_6 rfl (lv_at hl 0 rfl) ?_
    refine lv_ldc (v := 1000000000) hx hb hown (htb _ mb_444) d_PR_isValue_7 ?_
    refine lv_icmp_gt (tgt := 16) hx hb d_PR_isValue_9 (by decide) (fun c_2 => ?_) (fun c_2 => ?_)
    · have hF := hF.trans (if_pos c_2)
      refine lv_iconst (v := 0) hx hb d_PR_isValue_16 (by decide) ?_
      have hP9 := hP.sub (ws' := []) [] rfl
      have hD9 := hD.sub (ws' := []) [] (by decide) rfl
      exact W.zret (v := (0 : Int32)) hx hb hr (rfl) (fun t ht hW => ⟨⟨(0 : Int32), (), rfl, by rw [hF], by rw [ht]; exact hP9, hD9⟩, hS.F ht⟩) hS.2.2 d_PR_isValue_17
    · have hF := hF.trans (if_neg c_2)
      refine lv_iconst (v := 1) hx hb d_PR_isValue_12 (by decide) ?_
      refine lv_goto (tgt := 17) hx hb d_PR_isValue_13 (by decide) ?_
      have hP9 := hP.sub (ws' := []) [] rfl
      have hD9 := hD.sub (ws' := []) [] (by decide) rfl
      exact W.zret (v := (1 : Int32)) hx hb hr (rfl) (fun t ht hW => ⟨⟨(1 : Int32), (), rfl, by rw [hF], by rw [ht]; exact hP9, hD9⟩, hS.F ht⟩) hS.2.2 d_PR_isValue_17
def f_Text_at (pl : Int32) (tl : Int32) (tf : (Nat → Int32)) : Int32 := (if pl < 0 then 0 else (if tl ≤ pl then 0 else (if 800 ≤ pl then 0 else tf pl.toNatClampNeg)))
abbrev q_Text_at (dC : Nat → ClassId) (dI : Nat → Nat → Nat) (cB cI cJ : ClassId) (oT aT : Nat) (pl : Int32) (tl : Int32) (tf : (Nat → Int32)) (A : Nat → Prop) : Array Value → State → Outcome → State → Prop := va_Qi (fun (r : Int32) (u : Unit) => r = f_Text_at pl tl tf) (fun u t => va_P (dC, dI) vwCl [(oT, .inr (5, [.ref aT, .int tl])), (aT, .inl (cB, 800, .inl tf))] t.heap ∧ va_D A [(oT, .inr (5, [.ref aT, .int tl])), (aT, .inl (cB, 800, .inl tf))]) A
set_option maxHeartbeats 4000000 in
set_option maxRecDepth 100000 in
theorem c_Text_at (l : Launch) (dC : Nat → ClassId) (dI : Nat → Nat → Nat) (cB cI cJ : ClassId) (oT aT : Nat) (sz : Nat) (pl : Int32) (tl : Int32) (tf : (Nat → Int32)) : Met l y_Text_at (cw_Text_at :: bgw) { frames := 0, cells := 0, slots := 0, locals := 0 } (va_Pc [.ref oT, .int pl] (kb_B dC dI cB cI cJ [(oT, .inr (5, [.ref aT, .int tl])), (aT, .inl (cB, 800, .inl tf))] sz)) (q_Text_at dC dI cB cI cJ oT aT pl tl tf (va_A [(oT, .inr (5, [.ref aT, .int tl])), (aT, .inl (cB, 800, .inl tf))] sz)) 0 0 (va_A [(oT, .inr (5, [.ref aT, .int tl])), (aT, .inl (cB, 800, .inl tf))] sz) := by
  refine Met.ofW (cc := prog_7_method_2_code) (maxL := 2) (ret := (some .int)) (by decide) rfl ?_
  intro p e s m args below meth c s₁ B hml hv
  obtain ⟨rfl, hsz, hP, hKx, hD0⟩ := hv
  have hx := B.exec
  have hb := B.bytes
  have hr := B.returns
  have hts := atoms_spec (ws := (cw_Text_at :: bgw)) B.pre
  have hown : s.vm.findClass "PermitRules$Text" = some m.cls := findClass_of_methodNamed B.named
  have hlocks := B.notSynchronized
  have htb := fun (w : Cond) (h : w ∈ bgw) => hts w (List.mem_cons_of_mem _ h)
  have hK := hKx.1
  subst hsz
  have hD := hD0.self (sz := s.heap.size)
  generalize hAe : va_A [(oT, .inr (5, [.ref aT, .int tl])), (aT, .inl (cB, 800, .inl tf))] s.heap.size = A at hD ⊢
  have hA : ∀ q : Nat, s.heap.size ≤ q → A q := fun q h => by rw [← hAe]; exact Or.inr h
  have hS : va_S A s.heap s.heap [] := va_S.rf
  have hl := lv_entry ([.ref oT, .int pl]) (n := 2) (Nat.le_of_ble_eq_true rfl)
  rw [lg_entry_eq]
  generalize (lg_sl ([.ref oT, .int pl]) ++ List.replicate (2 - (lg_sl ([.ref oT, .int pl])).length) Slot.unset).toArray = ls at hl ⊢
  have hl : lv_has ls 2 [(0, .ref oT), (1, .int pl)] := hl
  have hP : va_P (dC, dI) vwCl [(oT, .inr (5, [.ref aT, .int tl])), (aT, .inl (cB, 800, .inl tf))] s.heap := hP
  have hF : f_Text_at pl tl tf = (if pl < 0 then 0 else (if tl ≤ pl then 0 else (if 800 ≤ pl then 0 else tf pl.toNatClampNeg))) := rfl
  refine lv_iload_n hx hb d_Text_at_0 rfl (lv_at hl 1 rfl) ?_
  refine lv_if_lt (tgt := 30) hx hb d_Text_at_1 (by decide) (fun c_1 => ?_) (fun c_1 => ?_)
  · have hF := hF.trans (if_pos c_1)
    refine lv_iconst (v := 0) hx hb d_Text_at_30 (by decide) ?_
    have hP9 := hP.sub (ws' := [(oT, .inr (5, [.ref aT, .int tl])), (aT, .inl (cB, 800, .inl tf))]) [0, 1] rfl
    have hD9 := hD.sub (ws' := [(oT, .inr (5, [.ref aT, .int tl])), (aT, .inl (cB, 800, .inl tf))]) [0, 1] (by decide) rfl
    exact W.iret (v := (0 : Int32)) hx hb hr (fun t ht hW => ⟨⟨(0 : Int32), (), rfl, by rw [hF], by rw [ht]; exact hP9, hD9⟩, hS.F ht⟩) hS.2.2 d_Text_at_31
  · have hF := hF.trans (if_neg c_1)
    refine lv_iload_n hx hb d_Text_at_4 rfl (lv_at hl 1 rfl) ?_
    refine lv_aload_n hx hb d_Text_at_5 rfl (lv_at hl 0 rfl) ?_
    refine va_get (D := (dC, dI)) (ci := 5) (v := .int tl) (C := "PermitRules$Text") (T := T_Text) (N := 2) hx hb htb in_Text hown hK hP 0 rfl rfl 1 (by decide) (htb _ mb_30) (fun _ h9 => h9) rfl d_Text_at_6 ?_
    refine lv_icmp_ge (tgt := 30) hx hb d_Text_at_9 (by decide) (fun c_2 => ?_) (fun c_2 => ?_)
    · have hF := hF.trans (if_pos c_2)
      refine lv_iconst (v := 0) hx hb d_Text_at_30 (by decide) ?_
      have hP9 := hP.sub (ws' := [(oT, .inr (5, [.ref aT, .int tl])), (aT, .inl (cB, 800, .inl tf))]) [0, 1] rfl
      have hD9 := hD.sub (ws' := [(oT, .inr (5, [.ref aT, .int tl])), (aT, .inl (cB, 800, .inl tf))]) [0, 1] (by decide) rfl
      exact W.iret (v := (0 : Int32)) hx hb hr (fun t ht hW => ⟨⟨(0 : Int32), (), rfl, by rw [hF], by rw [ht]; exact hP9, hD9⟩, hS.F ht⟩) hS.2.2 d_Text_at_31
    · have hF := hF.trans (if_neg c_2)
      refine lv_iload_n hx hb d_Text_at_12 rfl (lv_at hl 1 rfl) ?_
      refine lv_aload_n hx hb d_Text_at_13 rfl (lv_at hl 0 rfl) ?_
      refine va_get (D := (dC, dI)) (ci := 5) (v := .ref aT) (C := "PermitRules$Text") (T := T_Text) (N := 2) hx hb htb in_Text hown hK hP 0 rfl rfl 0 (by decide) (htb _ mb_29) (fun _ h9 => h9) rfl d_Text_at_14 ?_
      refine va_alen (v := 800) hx hb hK hP 1 0 rfl rfl (by rfl) d_Text_at_17 ?_
      refine lv_icmp_ge (tgt := 30) hx hb d_Text_at_18 (by decide) (fun c_3 => ?_) (fun c_3 => ?_)
      · have hF := hF.trans (if_pos c_3)
        refine lv_iconst (v := 0) hx hb d_Text_at_30 (by decide) ?_
        have hP9 := hP.sub (ws' := [(oT, .inr (5, [.ref aT, .int tl])), (aT, .inl (cB, 800, .inl tf))]) [0, 1] rfl
        have hD9 := hD.sub (ws' := [(oT, .inr (5, [.ref aT, .int tl])), (aT, .inl (cB, 800, .inl tf))]) [0, 1] (by decide) rfl
        exact W.iret (v := (0 : Int32)) hx hb hr (fun t ht hW => ⟨⟨(0 : Int32), (), rfl, by rw [hF], by rw [ht]; exact hP9, hD9⟩, hS.F ht⟩) hS.2.2 d_Text_at_31
      · have hF := hF.trans (if_neg c_3)
        refine lv_aload_n hx hb d_Text_at_21 rfl (lv_at hl 0 rfl) ?_
        refine va_get (D := (dC, dI)) (ci := 5) (v := .ref aT) (C := "PermitRules$Text") (T := T_Text) (N := 2) hx hb htb in_Text hown hK hP 0 rfl rfl 0 (by decide) (htb _ mb_29) (fun _ h9 => h9) rfl d_Text_at_22 ?_
        refine lv_iload_n hx hb d_Text_at_25 rfl (lv_at hl 1 rfl) ?_
        refine va_bald hx hb hK hP 1 0 rfl rfl (oi_in (N := 800) (by decide) c_1 c_3) d_Text_at_26 ?_
        refine lv_goto (tgt := 31) hx hb d_Text_at_27 (by decide) ?_
        have hP9 := hP.sub (ws' := [(oT, .inr (5, [.ref aT, .int tl])), (aT, .inl (cB, 800, .inl tf))]) [0, 1] rfl
        have hD9 := hD.sub (ws' := [(oT, .inr (5, [.ref aT, .int tl])), (aT, .inl (cB, 800, .inl tf))]) [0, 1] (by decide) rfl
        exact W.iret (v := tf pl.toNatClampNeg) hx hb hr (fun t ht hW => ⟨⟨tf pl.toNatClampNeg, (), rfl, by rw [hF], by rw [ht]; exact hP9, hD9⟩, hS.F ht⟩) hS.2.2 d_Text_at_31
def f_Text_append (ch : Int32) (tl : Int32) (tf : (Nat → Int32)) : Int32 × (Nat → Int32) := (if tl < 0 then (tl, tf) else (if 800 ≤ tl then (tl, tf) else (tl + 1, upd tf tl.toNatClampNeg (vp_nar .byte ch.toInt8.toInt32))))
abbrev q_Text_append (dC : Nat → ClassId) (dI : Nat → Nat → Nat) (cB cI cJ : ClassId) (oT aT : Nat) (ch : Int32) (tl : Int32) (tf : (Nat → Int32)) (A : Nat → Prop) : Array Value → State → Outcome → State → Prop := va_Qv (fun u : Int32 × (Nat → Int32) => u = f_Text_append ch tl tf) (fun u t => va_P (dC, dI) vwCl [(oT, .inr (5, [.ref aT, .int u.1])), (aT, .inl (cB, 800, .inl u.2))] t.heap ∧ va_D A [(oT, .inr (5, [.ref aT, .int u.1])), (aT, .inl (cB, 800, .inl u.2))]) A
set_option maxHeartbeats 4000000 in
set_option maxRecDepth 100000 in
theorem c_Text_append (l : Launch) (dC : Nat → ClassId) (dI : Nat → Nat → Nat) (cB cI cJ : ClassId) (oT aT : Nat) (sz : Nat) (ch : Int32) (tl : Int32) (tf : (Nat → Int32)) : Met l y_Text_append (cw_Text_append :: bgw) { frames := 0, cells := 0, slots := 0, locals := 0 } (va_Pc [.ref oT, .int ch] (kb_B dC dI cB cI cJ [(oT, .inr (5, [.ref aT, .int tl])), (aT, .inl (cB, 800, .inl tf))] sz)) (q_Text_append dC dI cB cI cJ oT aT ch tl tf (va_A [(oT, .inr (5, [.ref aT, .int tl])), (aT, .inl (cB, 800, .inl tf))] sz)) 0 0 (va_A [(oT, .inr (5, [.ref aT, .int tl])), (aT, .inl (cB, 800, .inl tf))] sz) := by
  refine Met.ofW (cc := prog_7_method_3_code) (maxL := 2) (ret := none) (by decide) rfl ?_
  intro p e s m args below meth c s₁ B hml hv
  obtain ⟨rfl, hsz, hP, hKx, hD0⟩ := hv
  have hx := B.exec
  have hb := B.bytes
  have hr := B.returns
  have hts := atoms_spec (ws := (cw_Text_append :: bgw)) B.pre
  have hown : s.vm.findClass "PermitRules$Text" = some m.cls := findClass_of_methodNamed B.named
  have hlocks := B.notSynchronized
  have htb := fun (w : Cond) (h : w ∈ bgw) => hts w (List.mem_cons_of_mem _ h)
  have hK := hKx.1
  subst hsz
  have hD := hD0.self (sz := s.heap.size)
  generalize hAe : va_A [(oT, .inr (5, [.ref aT, .int tl])), (aT, .inl (cB, 800, .inl tf))] s.heap.size = A at hD ⊢
  have hA : ∀ q : Nat, s.heap.size ≤ q → A q := fun q h => by rw [← hAe]; exact Or.inr h
  have hS : va_S A s.heap s.heap [] := va_S.rf
  have hl := lv_entry ([.ref oT, .int ch]) (n := 2) (Nat.le_of_ble_eq_true rfl)
  rw [lg_entry_eq]
  generalize (lg_sl ([.ref oT, .int ch]) ++ List.replicate (2 - (lg_sl ([.ref oT, .int ch])).length) Slot.unset).toArray = ls at hl ⊢
  have hl : lv_has ls 2 [(0, .ref oT), (1, .int ch)] := hl
  have hP : va_P (dC, dI) vwCl [(oT, .inr (5, [.ref aT, .int tl])), (aT, .inl (cB, 800, .inl tf))] s.heap := hP
  have hF : f_Text_append ch tl tf = (if tl < 0 then (tl, tf) else (if 800 ≤ tl then (tl, tf) else (tl + 1, upd tf tl.toNatClampNeg (vp_nar .byte ch.toInt8.toInt32)))) := rfl
  refine lv_aload_n hx hb d_Text_append_0 rfl (lv_at hl 0 rfl) ?_
  refine va_get (D := (dC, dI)) (ci := 5) (v := .int tl) (C := "PermitRules$Text") (T := T_Text) (N := 2) hx hb htb in_Text hown hK hP 0 rfl rfl 1 (by decide) (htb _ mb_30) (fun _ h9 => h9) rfl d_Text_append_1 ?_
  refine lv_if_lt (tgt := 40) hx hb d_Text_append_4 (by decide) (fun c_1 => ?_) (fun c_1 => ?_)
  · have hF := hF.trans (if_pos c_1)
    have hP9 := hP.sub (ws' := [(oT, .inr (5, [.ref aT, .int tl])), (aT, .inl (cB, 800, .inl tf))]) [0, 1] rfl
    have hD9 := hD.sub (ws' := [(oT, .inr (5, [.ref aT, .int tl])), (aT, .inl (cB, 800, .inl tf))]) [0, 1] (by decide) rfl
    exact W.vret hx hb hr (fun t ht hW => ⟨⟨(tl, tf), rfl, by rw [hF], by rw [ht]; exact hP9, hD9⟩, hS.F ht⟩) hS.2.2 d_Text_append_40
  · have hF := hF.trans (if_neg c_1)
    refine lv_aload_n hx hb d_Text_append_7 rfl (lv_at hl 0 rfl) ?_
    refine va_get (D := (dC, dI)) (ci := 5) (v := .int tl) (C := "PermitRules$Text") (T := T_Text) (N := 2) hx hb htb in_Text hown hK hP 0 rfl rfl 1 (by decide) (htb _ mb_30) (fun _ h9 => h9) rfl d_Text_append_8 ?_
    refine lv_aload_n hx hb d_Text_append_11 rfl (lv_at hl 0 rfl) ?_
    refine va_get (D := (dC, dI)) (ci := 5) (v := .ref aT) (C := "PermitRules$Text") (T := T_Text) (N := 2) hx hb htb in_Text hown hK hP 0 rfl rfl 0 (by decide) (htb _ mb_29) (fun _ h9 => h9) rfl d_Text_append_12 ?_
    refine va_alen (v := 800) hx hb hK hP 1 0 rfl rfl (by rfl) d_Text_append_15 ?_
    refine lv_icmp_ge (tgt := 40) hx hb d_Text_append_16 (by decide) (fun c_2 => ?_) (fun c_2 => ?_)
    · have hF := hF.trans (if_pos c_2)
      have hP9 := hP.sub (ws' := [(oT, .inr (5, [.ref aT, .int tl])), (aT, .inl (cB, 800, .inl tf))]) [0, 1] rfl
      have hD9 := hD.sub (ws' := [(oT, .inr (5, [.ref aT, .int tl])), (aT, .inl (cB, 800, .inl tf))]) [0, 1] (by decide) rfl
      exact W.vret hx hb hr (fun t ht hW => ⟨⟨(tl, tf), rfl, by rw [hF], by rw [ht]; exact hP9, hD9⟩, hS.F ht⟩) hS.2.2 d_Text_append_40
    · have hF := hF.trans (if_neg c_2)
      refine lv_aload_n hx hb d_Text_append_19 rfl (lv_at hl 0 rfl) ?_
      refine va_get (D := (dC, dI)) (ci := 5) (v := .ref aT) (C := "PermitRules$Text") (T := T_Text) (N := 2) hx hb htb in_Text hown hK hP 0 rfl rfl 0 (by decide) (htb _ mb_29) (fun _ h9 => h9) rfl d_Text_append_20 ?_
      refine lv_aload_n hx hb d_Text_append_23 rfl (lv_at hl 0 rfl) ?_
      refine va_get (D := (dC, dI)) (ci := 5) (v := .int tl) (C := "PermitRules$Text") (T := T_Text) (N := 2) hx hb htb in_Text hown hK hP 0 rfl rfl 1 (by decide) (htb _ mb_30) (fun _ h9 => h9) rfl d_Text_append_24 ?_
      refine lv_iload_n hx hb d_Text_append_27 rfl (lv_at hl 1 rfl) ?_
      refine lv_i2b (v := ch.toInt8.toInt32) hx hb d_Text_append_28 rfl ?_
      refine va_bast hx hb hK hP hD hS 1 0 rfl rfl (oi_in (N := 800) (by decide) c_1 c_2) d_Text_append_29 (fun H locs hP hD hS => ?_)
      have hP : va_P (dC, dI) vwCl [(oT, .inr (5, [.ref aT, .int tl])), (aT, .inl (cB, 800, .inl (upd tf tl.toNatClampNeg (vp_nar .byte ch.toInt8.toInt32))))] H := hP
      have hD : va_D A [(oT, .inr (5, [.ref aT, .int tl])), (aT, .inl (cB, 800, .inl (upd tf tl.toNatClampNeg (vp_nar .byte ch.toInt8.toInt32))))] := hD
      refine lv_aload_n hx hb d_Text_append_30 rfl (lv_at hl 0 rfl) ?_
      refine lv_dup hx hb d_Text_append_31 rfl ?_
      refine va_get (D := (dC, dI)) (ci := 5) (v := .int tl) (C := "PermitRules$Text") (T := T_Text) (N := 2) hx hb htb in_Text hown hK hP 0 rfl rfl 1 (by decide) (htb _ mb_30) (fun _ h9 => h9) rfl d_Text_append_32 ?_
      refine lv_iconst (v := 1) hx hb d_Text_append_35 (by decide) ?_
      refine lv_iadd hx hb d_Text_append_36 ?_
      refine va_put (D := (dC, dI)) (ci := 5) (v := .int (tl + 1)) (ty := .int) (C := "PermitRules$Text") (T := T_Text) (N := 2) hx hb htb in_Text ty_Text to_Text nm_Text hown hK hP hD hS 0 rfl rfl 1 (by decide) (htb _ mb_30) (fun _ h9 => h9) rfl (by decide +kernel) rfl rfl (Nat.le_of_ble_eq_true rfl) d_Text_append_37 (fun H locs hP hD hS => ?_)
      have hP : va_P (dC, dI) vwCl [(oT, .inr (5, [.ref aT, .int (tl + 1)])), (aT, .inl (cB, 800, .inl (upd tf tl.toNatClampNeg (vp_nar .byte ch.toInt8.toInt32))))] H := hP
      have hD : va_D A [(oT, .inr (5, [.ref aT, .int (tl + 1)])), (aT, .inl (cB, 800, .inl (upd tf tl.toNatClampNeg (vp_nar .byte ch.toInt8.toInt32))))] := hD
      have hP9 := hP.sub (ws' := [(oT, .inr (5, [.ref aT, .int (tl + 1)])), (aT, .inl (cB, 800, .inl (upd tf tl.toNatClampNeg (vp_nar .byte ch.toInt8.toInt32))))]) [0, 1] rfl
      have hD9 := hD.sub (ws' := [(oT, .inr (5, [.ref aT, .int (tl + 1)])), (aT, .inl (cB, 800, .inl (upd tf tl.toNatClampNeg (vp_nar .byte ch.toInt8.toInt32))))]) [0, 1] (by decide) rfl
      exact W.vret hx hb hr (fun t ht hW => ⟨⟨(tl + 1, upd tf tl.toNatClampNeg (vp_nar .byte ch.toInt8.toInt32)), rfl, by rw [hF], by rw [ht]; exact hP9, hD9⟩, hS.F ht⟩) hS.2.2 d_Text_append_40
