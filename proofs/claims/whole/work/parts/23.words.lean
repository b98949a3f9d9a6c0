def f_Words_kind (cu : Int32) (wk : (Nat → Int32)) : Int32 := (if cu < 0 then 1 else (if 121 ≤ cu then 1 else wk cu.toNatClampNeg))
abbrev q_Words_kind (dC : Nat → ClassId) (dI : Nat → Nat → Nat) (cB cI cJ : ClassId) (oW aK aP aO : Nat) (cu : Int32) (wk : (Nat → Int32)) (wp : (Nat → Int32)) (ww : (Nat → Int64)) (A : Nat → Prop) : Array Value → State → Outcome → State → Prop := va_Qi (fun (r : Int32) (u : Unit) => r = f_Words_kind cu wk) (fun u t => va_P (dC, dI) vwCl [(oW, .inr (6, [.ref aK, .ref aP, .ref aO, .int cu])), (aK, .inl (cI, 121, .inl wk)), (aP, .inl (cI, 121, .inl wp)), (aO, .inl (cJ, 121, .inr (.inl ww)))] t.heap ∧ va_D A [(oW, .inr (6, [.ref aK, .ref aP, .ref aO, .int cu])), (aK, .inl (cI, 121, .inl wk)), (aP, .inl (cI, 121, .inl wp)), (aO, .inl (cJ, 121, .inr (.inl ww)))]) A
set_option maxHeartbeats 4000000 in
set_option maxRecDepth 100000 in
theorem c_Words_kind (l : Launch) (dC : Nat → ClassId) (dI : Nat → Nat → Nat) (cB cI cJ : ClassId) (oW aK aP aO : Nat) (sz : Nat) (cu : Int32) (wk : (Nat → Int32)) (wp : (Nat → Int32)) (ww : (Nat → Int64)) : Met l y_Words_kind (cw_Words_kind :: bgw) { frames := 0, cells := 0, slots := 0, locals := 0 } (va_Pc [.ref oW] (kb_B dC dI cB cI cJ [(oW, .inr (6, [.ref aK, .ref aP, .ref aO, .int cu])), (aK, .inl (cI, 121, .inl wk)), (aP, .inl (cI, 121, .inl wp)), (aO, .inl (cJ, 121, .inr (.inl ww)))] sz)) (q_Words_kind dC dI cB cI cJ oW aK aP aO cu wk wp ww (va_A [(oW, .inr (6, [.ref aK, .ref aP, .ref aO, .int cu])), (aK, .inl (cI, 121, .inl wk)), (aP, .inl (cI, 121, .inl wp)), (aO, .inl (cJ, 121, .inr (.inl ww)))] sz)) 0 0 (va_A [(oW, .inr (6, [.ref aK, .ref aP, .ref aO, .int cu])), (aK, .inl (cI, 121, .inl wk)), (aP, .inl (cI, 121, .inl wp)), (aO, .inl (cJ, 121, .inr (.inl ww)))] sz) := by
  refine Met.ofW (cc := prog_8_method_3_code) (maxL := 1) (ret := (some .int)) (by decide) rfl ?_
  intro p e s m args below meth c s₁ B hml hv
  obtain ⟨rfl, hsz, hP, hKx, hD0⟩ := hv
  have hx := B.exec
  have hb := B.bytes
  have hr := B.returns
  have hts := atoms_spec (ws := (cw_Words_kind :: bgw)) B.pre
  have hown : s.vm.findClass "PermitRules$Words" = some m.cls := findClass_of_methodNamed B.named
  have hlocks := B.notSynchronized
  have htb := fun (w : Cond) (h : w ∈ bgw) => hts w (List.mem_cons_of_mem _ h)
  have hK := hKx.1
  subst hsz
  have hD := hD0.self (sz := s.heap.size)
  generalize hAe : va_A [(oW, .inr (6, [.ref aK, .ref aP, .ref aO, .int cu])), (aK, .inl (cI, 121, .inl wk)), (aP, .inl (cI, 121, .inl wp)), (aO, .inl (cJ, 121, .inr (.inl ww)))] s.heap.size = A at hD ⊢
  have hA : ∀ q : Nat, s.heap.size ≤ q → A q := fun q h => by rw [← hAe]; exact Or.inr h
  have hS : va_S A s.heap s.heap [] := va_S.rf
  have hl := lv_entry ([.ref oW]) (n := 1) (Nat.le_of_ble_eq_true rfl)
  rw [lg_entry_eq]
  generalize (lg_sl ([.ref oW]) ++ List.replicate (1 - (lg_sl ([.ref oW])).length) Slot.unset).toArray = ls at hl ⊢
  have hl : lv_has ls 1 [(0, .ref oW)] := hl
  have hP : va_P (dC, dI) vwCl [(oW, .inr (6, [.ref aK, .ref aP, .ref aO, .int cu])), (aK, .inl (cI, 121, .inl wk)), (aP, .inl (cI, 121, .inl wp)), (aO, .inl (cJ, 121, .inr (.inl ww)))] s.heap := hP
  have hF : f_Words_kind cu wk = (if cu < 0 then 1 else (if 121 ≤ cu then 1 else wk cu.toNatClampNeg)) := rfl
  refine lv_aload_n hx hb d_Words_kind_0 rfl (lv_at hl 0 rfl) ?_
  refine va_get (D := (dC, dI)) (ci := 6) (v := .int cu) (C := "PermitRules$Words") (T := T_Words) (N := 4) hx hb htb in_Words hown hK hP 0 rfl rfl 3 (by decide) (htb _ mb_53) (fun _ h9 => h9) rfl d_Words_kind_1 ?_
  refine lv_if_lt (tgt := 31) hx hb d_Words_kind_4 (by decide) (fun c_1 => ?_) (fun c_1 => ?_)
  · have hF := hF.trans (if_pos c_1)
    refine lv_iconst (v := 1) hx hb d_Words_kind_31 (by decide) ?_
    have hP9 := hP.sub (ws' := [(oW, .inr (6, [.ref aK, .ref aP, .ref aO, .int cu])), (aK, .inl (cI, 121, .inl wk)), (aP, .inl (cI, 121, .inl wp)), (aO, .inl (cJ, 121, .inr (.inl ww)))]) [0, 1, 2, 3] rfl
    have hD9 := hD.sub (ws' := [(oW, .inr (6, [.ref aK, .ref aP, .ref aO, .int cu])), (aK, .inl (cI, 121, .inl wk)), (aP, .inl (cI, 121, .inl wp)), (aO, .inl (cJ, 121, .inr (.inl ww)))]) [0, 1, 2, 3] (by decide) rfl
    exact W.iret (v := (1 : Int32)) hx hb hr (fun t ht hW => ⟨⟨(1 : Int32), (), rfl, by rw [hF], by rw [ht]; exact hP9, hD9⟩, hS.F ht⟩) hS.2.2 d_Words_kind_32
  · have hF := hF.trans (if_neg c_1)
    refine lv_aload_n hx hb d_Words_kind_7 rfl (lv_at hl 0 rfl) ?_
    refine va_get (D := (dC, dI)) (ci := 6) (v := .int cu) (C := "PermitRules$Words") (T := T_Words) (N := 4) hx hb htb in_Words hown hK hP 0 rfl rfl 3 (by decide) (htb _ mb_53) (fun _ h9 => h9) rfl d_Words_kind_8 ?_
    refine lv_aload_n hx hb d_Words_kind_11 rfl (lv_at hl 0 rfl) ?_
    refine va_get (D := (dC, dI)) (ci := 6) (v := .ref aK) (C := "PermitRules$Words") (T := T_Words) (N := 4) hx hb htb in_Words hown hK hP 0 rfl rfl 0 (by decide) (htb _ mb_50) (fun _ h9 => h9) rfl d_Words_kind_12 ?_
    refine va_alen (v := 121) hx hb hK hP 1 1 rfl rfl (by rfl) d_Words_kind_15 ?_
    refine lv_icmp_ge (tgt := 31) hx hb d_Words_kind_16 (by decide) (fun c_2 => ?_) (fun c_2 => ?_)
    · have hF := hF.trans (if_pos c_2)
      refine lv_iconst (v := 1) hx hb d_Words_kind_31 (by decide) ?_
      have hP9 := hP.sub (ws' := [(oW, .inr (6, [.ref aK, .ref aP, .ref aO, .int cu])), (aK, .inl (cI, 121, .inl wk)), (aP, .inl (cI, 121, .inl wp)), (aO, .inl (cJ, 121, .inr (.inl ww)))]) [0, 1, 2, 3] rfl
      have hD9 := hD.sub (ws' := [(oW, .inr (6, [.ref aK, .ref aP, .ref aO, .int cu])), (aK, .inl (cI, 121, .inl wk)), (aP, .inl (cI, 121, .inl wp)), (aO, .inl (cJ, 121, .inr (.inl ww)))]) [0, 1, 2, 3] (by decide) rfl
      exact W.iret (v := (1 : Int32)) hx hb hr (fun t ht hW => ⟨⟨(1 : Int32), (), rfl, by rw [hF], by rw [ht]; exact hP9, hD9⟩, hS.F ht⟩) hS.2.2 d_Words_kind_32
    · have hF := hF.trans (if_neg c_2)
      refine lv_aload_n hx hb d_Words_kind_19 rfl (lv_at hl 0 rfl) ?_
      refine va_get (D := (dC, dI)) (ci := 6) (v := .ref aK) (C := "PermitRules$Words") (T := T_Words) (N := 4) hx hb htb in_Words hown hK hP 0 rfl rfl 0 (by decide) (htb _ mb_50) (fun _ h9 => h9) rfl d_Words_kind_20 ?_
      refine lv_aload_n hx hb d_Words_kind_23 rfl (lv_at hl 0 rfl) ?_
      refine va_get (D := (dC, dI)) (ci := 6) (v := .int cu) (C := "PermitRules$Words") (T := T_Words) (N := 4) hx hb htb in_Words hown hK hP 0 rfl rfl 3 (by decide) (htb _ mb_53) (fun _ h9 => h9) rfl d_Words_kind_24 ?_
      refine va_iald hx hb hK hP 1 1 rfl rfl (oi_in (N := 121) (by decide) c_1 c_2) d_Words_kind_27 ?_
      refine lv_goto (tgt := 32) hx hb d_Words_kind_28 (by decide) ?_
      have hP9 := hP.sub (ws' := [(oW, .inr (6, [.ref aK, .ref aP, .ref aO, .int cu])), (aK, .inl (cI, 121, .inl wk)), (aP, .inl (cI, 121, .inl wp)), (aO, .inl (cJ, 121, .inr (.inl ww)))]) [0, 1, 2, 3] rfl
      have hD9 := hD.sub (ws' := [(oW, .inr (6, [.ref aK, .ref aP, .ref aO, .int cu])), (aK, .inl (cI, 121, .inl wk)), (aP, .inl (cI, 121, .inl wp)), (aO, .inl (cJ, 121, .inr (.inl ww)))]) [0, 1, 2, 3] (by decide) rfl
      exact W.iret (v := wk cu.toNatClampNeg) hx hb hr (fun t ht hW => ⟨⟨wk cu.toNatClampNeg, (), rfl, by rw [hF], by rw [ht]; exact hP9, hD9⟩, hS.F ht⟩) hS.2.2 d_Words_kind_32
def f_Words_place (cu : Int32) (wp : (Nat → Int32)) : Int32 := (if cu < 0 then 0 else (if 121 ≤ cu then 0 else wp cu.toNatClampNeg))
abbrev q_Words_place (dC : Nat → ClassId) (dI : Nat → Nat → Nat) (cB cI cJ : ClassId) (oW aK aP aO : Nat) (cu : Int32) (wk : (Nat → Int32)) (wp : (Nat → Int32)) (ww : (Nat → Int64)) (A : Nat → Prop) : Array Value → State → Outcome → State → Prop := va_Qi (fun (r : Int32) (u : Unit) => r = f_Words_place cu wp) (fun u t => va_P (dC, dI) vwCl [(oW, .inr (6, [.ref aK, .ref aP, .ref aO, .int cu])), (aK, .inl (cI, 121, .inl wk)), (aP, .inl (cI, 121, .inl wp)), (aO, .inl (cJ, 121, .inr (.inl ww)))] t.heap ∧ va_D A [(oW, .inr (6, [.ref aK, .ref aP, .ref aO, .int cu])), (aK, .inl (cI, 121, .inl wk)), (aP, .inl (cI, 121, .inl wp)), (aO, .inl (cJ, 121, .inr (.inl ww)))]) A
set_option maxHeartbeats 4000000 in
set_option maxRecDepth 100000 in
theorem c_Words_place (l : Launch) (dC : Nat → ClassId) (dI : Nat → Nat → Nat) (cB cI cJ : ClassId) (oW aK aP aO : Nat) (sz : Nat) (cu : Int32) (wk : (Nat → Int32)) (wp : (Nat → Int32)) (ww : (Nat → Int64)) : Met l y_Words_place (cw_Words_place :: bgw) { frames := 0, cells := 0, slots := 0, locals := 0 } (va_Pc [.ref oW] (kb_B dC dI cB cI cJ [(oW, .inr (6, [.ref aK, .ref aP, .ref aO, .int cu])), (aK, .inl (cI, 121, .inl wk)), (aP, .inl (cI, 121, .inl wp)), (aO, .inl (cJ, 121, .inr (.inl ww)))] sz)) (q_Words_place dC dI cB cI cJ oW aK aP aO cu wk wp ww (va_A [(oW, .inr (6, [.ref aK, .ref aP, .ref aO, .int cu])), (aK, .inl (cI, 121, .inl wk)), (aP, .inl (cI, 121, .inl wp)), (aO, .inl (cJ, 121, .inr (.inl ww)))] sz)) 0 0 (va_A [(oW, .inr (6, [.ref aK, .ref aP, .ref aO, .int cu])), (aK, .inl (cI, 121, .inl wk)), (aP, .inl (cI, 121, .inl wp)), (aO, .inl (cJ, 121, .inr (.inl ww)))] sz) := by
  refine Met.ofW (cc := prog_8_method_4_code) (maxL := 1) (ret := (some .int)) (by decide) rfl ?_
  intro p e s m args below meth c s₁ B hml hv
  obtain ⟨rfl, hsz, hP, hKx, hD0⟩ := hv
  have hx := B.exec
  have hb := B.bytes
  have hr := B.returns
  have hts := atoms_spec (ws := (cw_Words_place :: bgw)) B.pre
  have hown : s.vm.findClass "PermitRules$Words" = some m.cls := findClass_of_methodNamed B.named
  have hlocks := B.notSynchronized
  have htb := fun (w : Cond) (h : w ∈ bgw) => hts w (List.mem_cons_of_mem _ h)
  have hK := hKx.1
  subst hsz
  have hD := hD0.self (sz := s.heap.size)
  generalize hAe : va_A [(oW, .inr (6, [.ref aK, .ref aP, .ref aO, .int cu])), (aK, .inl (cI, 121, .inl wk)), (aP, .inl (cI, 121, .inl wp)), (aO, .inl (cJ, 121, .inr (.inl ww)))] s.heap.size = A at hD ⊢
  have hA : ∀ q : Nat, s.heap.size ≤ q → A q := fun q h => by rw [← hAe]; exact Or.inr h
  have hS : va_S A s.heap s.heap [] := va_S.rf
  have hl := lv_entry ([.ref oW]) (n := 1) (Nat.le_of_ble_eq_true rfl)
  rw [lg_entry_eq]
  generalize (lg_sl ([.ref oW]) ++ List.replicate (1 - (lg_sl ([.ref oW])).length) Slot.unset).toArray = ls at hl ⊢
  have hl : lv_has ls 1 [(0, .ref oW)] := hl
  have hP : va_P (dC, dI) vwCl [(oW, .inr (6, [.ref aK, .ref aP, .ref aO, .int cu])), (aK, .inl (cI, 121, .inl wk)), (aP, .inl (cI, 121, .inl wp)), (aO, .inl (cJ, 121, .inr (.inl ww)))] s.heap := hP
  have hF : f_Words_place cu wp = (if cu < 0 then 0 else (if 121 ≤ cu then 0 else wp cu.toNatClampNeg)) := rfl
  refine lv_aload_n hx hb d_Words_place_0 rfl (lv_at hl 0 rfl) ?_
  refine va_get (D := (dC, dI)) (ci := 6) (v := .int cu) (C := "PermitRules$Words") (T := T_Words) (N := 4) hx hb htb in_Words hown hK hP 0 rfl rfl 3 (by decide) (htb _ mb_53) (fun _ h9 => h9) rfl d_Words_place_1 ?_
  refine lv_if_lt (tgt := 31) hx hb d_Words_place_4 (by decide) (fun c_1 => ?_) (fun c_1 => ?_)
  · have hF := hF.trans (if_pos c_1)
    refine lv_iconst (v := 0) hx hb d_Words_place_31 (by decide) ?_
    have hP9 := hP.sub (ws' := [(oW, .inr (6, [.ref aK, .ref aP, .ref aO, .int cu])), (aK, .inl (cI, 121, .inl wk)), (aP, .inl (cI, 121, .inl wp)), (aO, .inl (cJ, 121, .inr (.inl ww)))]) [0, 1, 2, 3] rfl
    have hD9 := hD.sub (ws' := [(oW, .inr (6, [.ref aK, .ref aP, .ref aO, .int cu])), (aK, .inl (cI, 121, .inl wk)), (aP, .inl (cI, 121, .inl wp)), (aO, .inl (cJ, 121, .inr (.inl ww)))]) [0, 1, 2, 3] (by decide) rfl
    exact W.iret (v := (0 : Int32)) hx hb hr (fun t ht hW => ⟨⟨(0 : Int32), (), rfl, by rw [hF], by rw [ht]; exact hP9, hD9⟩, hS.F ht⟩) hS.2.2 d_Words_place_32
  · have hF := hF.trans (if_neg c_1)
    refine lv_aload_n hx hb d_Words_place_7 rfl (lv_at hl 0 rfl) ?_
    refine va_get (D := (dC, dI)) (ci := 6) (v := .int cu) (C := "PermitRules$Words") (T := T_Words) (N := 4) hx hb htb in_Words hown hK hP 0 rfl rfl 3 (by decide) (htb _ mb_53) (fun _ h9 => h9) rfl d_Words_place_8 ?_
    refine lv_aload_n hx hb d_Words_place_11 rfl (lv_at hl 0 rfl) ?_
    refine va_get (D := (dC, dI)) (ci := 6) (v := .ref aP) (C := "PermitRules$Words") (T := T_Words) (N := 4) hx hb htb in_Words hown hK hP 0 rfl rfl 1 (by decide) (htb _ mb_51) (fun _ h9 => h9) rfl d_Words_place_12 ?_
    refine va_alen (v := 121) hx hb hK hP 2 1 rfl rfl (by rfl) d_Words_place_15 ?_
    refine lv_icmp_ge (tgt := 31) hx hb d_Words_place_16 (by decide) (fun c_2 => ?_) (fun c_2 => ?_)
    · have hF := hF.trans (if_pos c_2)
      refine lv_iconst (v := 0) hx hb d_Words_place_31 (by decide) ?_
      have hP9 := hP.sub (ws' := [(oW, .inr (6, [.ref aK, .ref aP, .ref aO, .int cu])), (aK, .inl (cI, 121, .inl wk)), (aP, .inl (cI, 121, .inl wp)), (aO, .inl (cJ, 121, .inr (.inl ww)))]) [0, 1, 2, 3] rfl
      have hD9 := hD.sub (ws' := [(oW, .inr (6, [.ref aK, .ref aP, .ref aO, .int cu])), (aK, .inl (cI, 121, .inl wk)), (aP, .inl (cI, 121, .inl wp)), (aO, .inl (cJ, 121, .inr (.inl ww)))]) [0, 1, 2, 3] (by decide) rfl
      exact W.iret (v := (0 : Int32)) hx hb hr (fun t ht hW => ⟨⟨(0 : Int32), (), rfl, by rw [hF], by rw [ht]; exact hP9, hD9⟩, hS.F ht⟩) hS.2.2 d_Words_place_32
    · have hF := hF.trans (if_neg c_2)
      refine lv_aload_n hx hb d_Words_place_19 rfl (lv_at hl 0 rfl) ?_
      refine va_get (D := (dC, dI)) (ci := 6) (v := .ref aP) (C := "PermitRules$Words") (T := T_Words) (N := 4) hx hb htb in_Words hown hK hP 0 rfl rfl 1 (by decide) (htb _ mb_51) (fun _ h9 => h9) rfl d_Words_place_20 ?_
      refine lv_aload_n hx hb d_Words_place_23 rfl (lv_at hl 0 rfl) ?_
      refine va_get (D := (dC, dI)) (ci := 6) (v := .int cu) (C := "PermitRules$Words") (T := T_Words) (N := 4) hx hb htb in_Words hown hK hP 0 rfl rfl 3 (by decide) (htb _ mb_53) (fun _ h9 => h9) rfl d_Words_place_24 ?_
      refine va_iald hx hb hK hP 2 1 rfl rfl (oi_in (N := 121) (by decide) c_1 c_2) d_Words_place_27 ?_
      refine lv_goto (tgt := 32) hx hb d_Words_place_28 (by decide) ?_
      have hP9 := hP.sub (ws' := [(oW, .inr (6, [.ref aK, .ref aP, .ref aO, .int cu])), (aK, .inl (cI, 121, .inl wk)), (aP, .inl (cI, 121, .inl wp)), (aO, .inl (cJ, 121, .inr (.inl ww)))]) [0, 1, 2, 3] rfl
      have hD9 := hD.sub (ws' := [(oW, .inr (6, [.ref aK, .ref aP, .ref aO, .int cu])), (aK, .inl (cI, 121, .inl wk)), (aP, .inl (cI, 121, .inl wp)), (aO, .inl (cJ, 121, .inr (.inl ww)))]) [0, 1, 2, 3] (by decide) rfl
      exact W.iret (v := wp cu.toNatClampNeg) hx hb hr (fun t ht hW => ⟨⟨wp cu.toNatClampNeg, (), rfl, by rw [hF], by rw [ht]; exact hP9, hD9⟩, hS.F ht⟩) hS.2.2 d_Words_place_32
def f_Words_worth (cu : Int32) (ww : (Nat → Int64)) : Int64 := (if cu < 0 then 0 else (if 121 ≤ cu then 0 else ww cu.toNatClampNeg))
abbrev q_Words_worth (dC : Nat → ClassId) (dI : Nat → Nat → Nat) (cB cI cJ : ClassId) (oW aK aP aO : Nat) (cu : Int32) (wk : (Nat → Int32)) (wp : (Nat → Int32)) (ww : (Nat → Int64)) (A : Nat → Prop) : Array Value → State → Outcome → State → Prop := va_Ql (fun (r : Int64) (u : Unit) => r = f_Words_worth cu ww) (fun u t => va_P (dC, dI) vwCl [(oW, .inr (6, [.ref aK, .ref aP, .ref aO, .int cu])), (aK, .inl (cI, 121, .inl wk)), (aP, .inl (cI, 121, .inl wp)), (aO, .inl (cJ, 121, .inr (.inl ww)))] t.heap ∧ va_D A [(oW, .inr (6, [.ref aK, .ref aP, .ref aO, .int cu])), (aK, .inl (cI, 121, .inl wk)), (aP, .inl (cI, 121, .inl wp)), (aO, .inl (cJ, 121, .inr (.inl ww)))]) A
set_option maxHeartbeats 4000000 in
set_option maxRecDepth 100000 in
theorem c_Words_worth (l : Launch) (dC : Nat → ClassId) (dI : Nat → Nat → Nat) (cB cI cJ : ClassId) (oW aK aP aO : Nat) (sz : Nat) (cu : Int32) (wk : (Nat → Int32)) (wp : (Nat → Int32)) (ww : (Nat → Int64)) : Met l y_Words_worth (cw_Words_worth :: bgw) { frames := 0, cells := 0, slots := 0, locals := 0 } (va_Pc [.ref oW] (kb_B dC dI cB cI cJ [(oW, .inr (6, [.ref aK, .ref aP, .ref aO, .int cu])), (aK, .inl (cI, 121, .inl wk)), (aP, .inl (cI, 121, .inl wp)), (aO, .inl (cJ, 121, .inr (.inl ww)))] sz)) (q_Words_worth dC dI cB cI cJ oW aK aP aO cu wk wp ww (va_A [(oW, .inr (6, [.ref aK, .ref aP, .ref aO, .int cu])), (aK, .inl (cI, 121, .inl wk)), (aP, .inl (cI, 121, .inl wp)), (aO, .inl (cJ, 121, .inr (.inl ww)))] sz)) 0 0 (va_A [(oW, .inr (6, [.ref aK, .ref aP, .ref aO, .int cu])), (aK, .inl (cI, 121, .inl wk)), (aP, .inl (cI, 121, .inl wp)), (aO, .inl (cJ, 121, .inr (.inl ww)))] sz) := by
  refine Met.ofW (cc := prog_8_method_5_code) (maxL := 1) (ret := (some .long)) (by decide) rfl ?_
  intro p e s m args below meth c s₁ B hml hv
  obtain ⟨rfl, hsz, hP, hKx, hD0⟩ := hv
  have hx := B.exec
  have hb := B.bytes
  have hr := B.returns
  have hts := atoms_spec (ws := (cw_Words_worth :: bgw)) B.pre
  have hown : s.vm.findClass "PermitRules$Words" = some m.cls := findClass_of_methodNamed B.named
  have hlocks := B.notSynchronized
  have htb := fun (w : Cond) (h : w ∈ bgw) => hts w (List.mem_cons_of_mem _ h)
  have hK := hKx.1
  subst hsz
  have hD := hD0.self (sz := s.heap.size)
  generalize hAe : va_A [(oW, .inr (6, [.ref aK, .ref aP, .ref aO, .int cu])), (aK, .inl (cI, 121, .inl wk)), (aP, .inl (cI, 121, .inl wp)), (aO, .inl (cJ, 121, .inr (.inl ww)))] s.heap.size = A at hD ⊢
  have hA : ∀ q : Nat, s.heap.size ≤ q → A q := fun q h => by rw [← hAe]; exact Or.inr h
  have hS : va_S A s.heap s.heap [] := va_S.rf
  have hl := lv_entry ([.ref oW]) (n := 1) (Nat.le_of_ble_eq_true rfl)
  rw [lg_entry_eq]
  generalize (lg_sl ([.ref oW]) ++ List.replicate (1 - (lg_sl ([.ref oW])).length) Slot.unset).toArray = ls at hl ⊢
  have hl : lv_has ls 1 [(0, .ref oW)] := hl
  have hP : va_P (dC, dI) vwCl [(oW, .inr (6, [.ref aK, .ref aP, .ref aO, .int cu])), (aK, .inl (cI, 121, .inl wk)), (aP, .inl (cI, 121, .inl wp)), (aO, .inl (cJ, 121, .inr (.inl ww)))] s.heap := hP
  have hF : f_Words_worth cu ww = (if cu < 0 then 0 else (if 121 ≤ cu then 0 else ww cu.toNatClampNeg)) := rfl
  refine lv_aload_n hx hb d_Words_worth_0 rfl (lv_at hl 0 rfl) ?_
  refine va_get (D := (dC, dI)) (ci := 6) (v := .int cu) (C := "PermitRules$Words") (T := T_Words) (N := 4) hx hb htb in_Words hown hK hP 0 rfl rfl 3 (by decide) (htb _ mb_53) (fun _ h9 => h9) rfl d_Words_worth_1 ?_
  refine lv_if_lt (tgt := 31) hx hb d_Words_worth_4 (by decide) (fun c_1 => ?_) (fun c_1 => ?_)
  · have hF := hF.trans (if_pos c_1)
    refine lv_lconst (v := 0) hx hb d_Words_worth_31 (by decide) ?_
    have hP9 := hP.sub (ws' := [(oW, .inr (6, [.ref aK, .ref aP, .ref aO, .int cu])), (aK, .inl (cI, 121, .inl wk)), (aP, .inl (cI, 121, .inl wp)), (aO, .inl (cJ, 121, .inr (.inl ww)))]) [0, 1, 2, 3] rfl
    have hD9 := hD.sub (ws' := [(oW, .inr (6, [.ref aK, .ref aP, .ref aO, .int cu])), (aK, .inl (cI, 121, .inl wk)), (aP, .inl (cI, 121, .inl wp)), (aO, .inl (cJ, 121, .inr (.inl ww)))]) [0, 1, 2, 3] (by decide) rfl
    exact W.lret (v := (0 : Int64)) hx hb hr (fun t ht hW => ⟨⟨(0 : Int64), (), rfl, by rw [hF], by rw [ht]; exact hP9, hD9⟩, hS.F ht⟩) hS.2.2 d_Words_worth_32
  · have hF := hF.trans (if_neg c_1)
    refine lv_aload_n hx hb d_Words_worth_7 rfl (lv_at hl 0 rfl) ?_
    refine va_get (D := (dC, dI)) (ci := 6) (v := .int cu) (C := "PermitRules$Words") (T := T_Words) (N := 4) hx hb htb in_Words hown hK hP 0 rfl rfl 3 (by decide) (htb _ mb_53) (fun _ h9 => h9) rfl d_Words_worth_8 ?_
    refine lv_aload_n hx hb d_Words_worth_11 rfl (lv_at hl 0 rfl) ?_
    refine va_get (D := (dC, dI)) (ci := 6) (v := .ref aO) (C := "PermitRules$Words") (T := T_Words) (N := 4) hx hb htb in_Words hown hK hP 0 rfl rfl 2 (by decide) (htb _ mb_52) (fun _ h9 => h9) rfl d_Words_worth_12 ?_
    refine va_alen (v := 121) hx hb hK hP 3 2 rfl rfl (by rfl) d_Words_worth_15 ?_
    refine lv_icmp_ge (tgt := 31) hx hb d_Words_worth_16 (by decide) (fun c_2 => ?_) (fun c_2 => ?_)
    · have hF := hF.trans (if_pos c_2)
      refine lv_lconst (v := 0) hx hb d_Words_worth_31 (by decide) ?_
      have hP9 := hP.sub (ws' := [(oW, .inr (6, [.ref aK, .ref aP, .ref aO, .int cu])), (aK, .inl (cI, 121, .inl wk)), (aP, .inl (cI, 121, .inl wp)), (aO, .inl (cJ, 121, .inr (.inl ww)))]) [0, 1, 2, 3] rfl
      have hD9 := hD.sub (ws' := [(oW, .inr (6, [.ref aK, .ref aP, .ref aO, .int cu])), (aK, .inl (cI, 121, .inl wk)), (aP, .inl (cI, 121, .inl wp)), (aO, .inl (cJ, 121, .inr (.inl ww)))]) [0, 1, 2, 3] (by decide) rfl
      exact W.lret (v := (0 : Int64)) hx hb hr (fun t ht hW => ⟨⟨(0 : Int64), (), rfl, by rw [hF], by rw [ht]; exact hP9, hD9⟩, hS.F ht⟩) hS.2.2 d_Words_worth_32
    · have hF := hF.trans (if_neg c_2)
      refine lv_aload_n hx hb d_Words_worth_19 rfl (lv_at hl 0 rfl) ?_
      refine va_get (D := (dC, dI)) (ci := 6) (v := .ref aO) (C := "PermitRules$Words") (T := T_Words) (N := 4) hx hb htb in_Words hown hK hP 0 rfl rfl 2 (by decide) (htb _ mb_52) (fun _ h9 => h9) rfl d_Words_worth_20 ?_
      refine lv_aload_n hx hb d_Words_worth_23 rfl (lv_at hl 0 rfl) ?_
      refine va_get (D := (dC, dI)) (ci := 6) (v := .int cu) (C := "PermitRules$Words") (T := T_Words) (N := 4) hx hb htb in_Words hown hK hP 0 rfl rfl 3 (by decide) (htb _ mb_53) (fun _ h9 => h9) rfl d_Words_worth_24 ?_
      refine va_lald hx hb hK hP 3 2 rfl rfl (oi_in (N := 121) (by decide) c_1 c_2) d_Words_worth_27 ?_
      refine lv_goto (tgt := 32) hx hb d_Words_worth_28 (by decide) ?_
      have hP9 := hP.sub (ws' := [(oW, .inr (6, [.ref aK, .ref aP, .ref aO, .int cu])), (aK, .inl (cI, 121, .inl wk)), (aP, .inl (cI, 121, .inl wp)), (aO, .inl (cJ, 121, .inr (.inl ww)))]) [0, 1, 2, 3] rfl
      have hD9 := hD.sub (ws' := [(oW, .inr (6, [.ref aK, .ref aP, .ref aO, .int cu])), (aK, .inl (cI, 121, .inl wk)), (aP, .inl (cI, 121, .inl wp)), (aO, .inl (cJ, 121, .inr (.inl ww)))]) [0, 1, 2, 3] (by decide) rfl
      exact W.lret (v := ww cu.toNatClampNeg) hx hb hr (fun t ht hW => ⟨⟨ww cu.toNatClampNeg, (), rfl, by rw [hF], by rw [ht]; exact hP9, hD9⟩, hS.F ht⟩) hS.2.2 d_Words_worth_32
def f_Words_advance (cu : Int32) : Int32 := (if 120 ≤ cu then cu else cu + 1)
abbrev q_Words_advance (dC : Nat → ClassId) (dI : Nat → Nat → Nat) (cB cI cJ : ClassId) (oW aK aP aO : Nat) (cu : Int32) (wk : (Nat → Int32)) (wp : (Nat → Int32)) (ww : (Nat → Int64)) (A : Nat → Prop) : Array Value → State → Outcome → State → Prop := va_Qv (fun u : Int32 => u = f_Words_advance cu) (fun u t => va_P (dC, dI) vwCl [(oW, .inr (6, [.ref aK, .ref aP, .ref aO, .int u])), (aK, .inl (cI, 121, .inl wk)), (aP, .inl (cI, 121, .inl wp)), (aO, .inl (cJ, 121, .inr (.inl ww)))] t.heap ∧ va_D A [(oW, .inr (6, [.ref aK, .ref aP, .ref aO, .int u])), (aK, .inl (cI, 121, .inl wk)), (aP, .inl (cI, 121, .inl wp)), (aO, .inl (cJ, 121, .inr (.inl ww)))]) A
set_option maxHeartbeats 4000000 in
set_option maxRecDepth 100000 in
theorem c_Words_advance (l : Launch) (dC : Nat → ClassId) (dI : Nat → Nat → Nat) (cB cI cJ : ClassId) (oW aK aP aO : Nat) (sz : Nat) (cu : Int32) (wk : (Nat → Int32)) (wp : (Nat → Int32)) (ww : (Nat → Int64)) : Met l y_Words_advance (cw_Words_advance :: bgw) { frames := 0, cells := 0, slots := 0, locals := 0 } (va_Pc [.ref oW] (kb_B dC dI cB cI cJ [(oW, .inr (6, [.ref aK, .ref aP, .ref aO, .int cu])), (aK, .inl (cI, 121, .inl wk)), (aP, .inl (cI, 121, .inl wp)), (aO, .inl (cJ, 121, .inr (.inl ww)))] sz)) (q_Words_advance dC dI cB cI cJ oW aK aP aO cu wk wp ww (va_A [(oW, .inr (6, [.ref aK, .ref aP, .ref aO, .int cu])), (aK, .inl (cI, 121, .inl wk)), (aP, .inl (cI, 121, .inl wp)), (aO, .inl (cJ, 121, .inr (.inl ww)))] sz)) 0 0 (va_A [(oW, .inr (6, [.ref aK, .ref aP, .ref aO, .int cu])), (aK, .inl (cI, 121, .inl wk)), (aP, .inl (cI, 121, .inl wp)), (aO, .inl (cJ, 121, .inr (.inl ww)))] sz) := by
  refine Met.ofW (cc := prog_8_method_6_code) (maxL := 1) (ret := none) (by decide) rfl ?_
  intro p e s m args below meth c s₁ B hml hv
  obtain ⟨rfl, hsz, hP, hKx, hD0⟩ := hv
  have hx := B.exec
  have hb := B.bytes
  have hr := B.returns
  have hts := atoms_spec (ws := (cw_Words_advance :: bgw)) B.pre
  have hown : s.vm.findClass "PermitRules$Words" = some m.cls := findClass_of_methodNamed B.named
  have hlocks := B.notSynchronized
  have htb := fun (w : Cond) (h : w ∈ bgw) => hts w (List.mem_cons_of_mem _ h)
  have hK := hKx.1
  subst hsz
  have hD := hD0.self (sz := s.heap.size)
  generalize hAe : va_A [(oW, .inr (6, [.ref aK, .ref aP, .ref aO, .int cu])), (aK, .inl (cI, 121, .inl wk)), (aP, .inl (cI, 121, .inl wp)), (aO, .inl (cJ, 121, .inr (.inl ww)))] s.heap.size = A at hD ⊢
  have hA : ∀ q : Nat, s.heap.size ≤ q → A q := fun q h => by rw [← hAe]; exact Or.inr h
  have hS : va_S A s.heap s.heap [] := va_S.rf
  have hl := lv_entry ([.ref oW]) (n := 1) (Nat.le_of_ble_eq_true rfl)
  rw [lg_entry_eq]
  generalize (lg_sl ([.ref oW]) ++ List.replicate (1 - (lg_sl ([.ref oW])).length) Slot.unset).toArray = ls at hl ⊢
  have hl : lv_has ls 1 [(0, .ref oW)] := hl
  have hP : va_P (dC, dI) vwCl [(oW, .inr (6, [.ref aK, .ref aP, .ref aO, .int cu])), (aK, .inl (cI, 121, .inl wk)), (aP, .inl (cI, 121, .inl wp)), (aO, .inl (cJ, 121, .inr (.inl ww)))] s.heap := hP
  have hF : f_Words_advance cu = (if 120 ≤ cu then cu else cu + 1) := rfl
  refine lv_aload_n hx hb d_Words_advance_0 rfl (lv_at hl 0 rfl) ?_
  refine va_get (D := (dC, dI)) (ci := 6) (v := .int cu) (C := "PermitRules$Words") (T := T_Words) (N := 4) hx hb htb in_Words hown hK hP 0 rfl rfl 3 (by decide) (htb _ mb_53) (fun _ h9 => h9) rfl d_Words_advance_1 ?_
  refine lv_bipush (v := 120) hx hb d_Words_advance_4 (by decide) ?_
  refine lv_icmp_ge (tgt := 19) hx hb d_Words_advance_6 (by decide) (fun c_1 => ?_) (fun c_1 => ?_)
  · have hF := hF.trans (if_pos c_1)
    have hP9 := hP.sub (ws' := [(oW, .inr (6, [.ref aK, .ref aP, .ref aO, .int cu])), (aK, .inl (cI, 121, .inl wk)), (aP, .inl (cI, 121, .inl wp)), (aO, .inl (cJ, 121, .inr (.inl ww)))]) [0, 1, 2, 3] rfl
    have hD9 := hD.sub (ws' := [(oW, .inr (6, [.ref aK, .ref aP, .ref aO, .int cu])), (aK, .inl (cI, 121, .inl wk)), (aP, .inl (cI, 121, .inl wp)), (aO, .inl (cJ, 121, .inr (.inl ww)))]) [0, 1, 2, 3] (by decide) rfl
    exact W.vret hx hb hr (fun t ht hW => ⟨⟨cu, rfl, by rw [hF], by rw [ht]; exact hP9, hD9⟩, hS.F ht⟩) hS.2.2 d_Words_advance_19
  · have hF := hF.trans (if_neg c_1)
    refine lv_aload_n hx hb d_Words_advance_9 rfl (lv_at hl 0 rfl) ?_
    refine lv_dup hx hb d_Words_advance_10 rfl ?_
    refine va_get (D := (dC, dI)) (ci := 6) (v := .int cu) (C := "PermitRules$Words") (T := T_Words) (N := 4) hx hb htb in_Words hown hK hP 0 rfl rfl 3 (by decide) (htb _ mb_53) (fun _ h9 => h9) rfl d_Words_advance_11 ?_
    refine lv_iconst (v := 1) hx hb d_Words_advance_14 (by decide) ?_
    refine lv_iadd hx hb d_Words_advance_15 ?_
    refine va_put (D := (dC, dI)) (ci := 6) (v := .int (cu + 1)) (ty := .int) (C := "PermitRules$Words") (T := T_Words) (N := 4) hx hb htb in_Words ty_Words to_Words nm_Words hown hK hP hD hS 0 rfl rfl 3 (by decide) (htb _ mb_53) (fun _ h9 => h9) rfl (by decide +kernel) rfl rfl (Nat.le_of_ble_eq_true rfl) d_Words_advance_16 (fun H locs hP hD hS => ?_)
    have hP : va_P (dC, dI) vwCl [(oW, .inr (6, [.ref aK, .ref aP, .ref aO, .int (cu + 1)])), (aK, .inl (cI, 121, .inl wk)), (aP, .inl (cI, 121, .inl wp)), (aO, .inl (cJ, 121, .inr (.inl ww)))] H := hP
    have hD : va_D A [(oW, .inr (6, [.ref aK, .ref aP, .ref aO, .int (cu + 1)])), (aK, .inl (cI, 121, .inl wk)), (aP, .inl (cI, 121, .inl wp)), (aO, .inl (cJ, 121, .inr (.inl ww)))] := hD
    have hP9 := hP.sub (ws' := [(oW, .inr (6, [.ref aK, .ref aP, .ref aO, .int (cu + 1)])), (aK, .inl (cI, 121, .inl wk)), (aP, .inl (cI, 121, .inl wp)), (aO, .inl (cJ, 121, .inr (.inl ww)))]) [0, 1, 2, 3] rfl
    have hD9 := hD.sub (ws' := [(oW, .inr (6, [.ref aK, .ref aP, .ref aO, .int (cu + 1)])), (aK, .inl (cI, 121, .inl wk)), (aP, .inl (cI, 121, .inl wp)), (aO, .inl (cJ, 121, .inr (.inl ww)))]) [0, 1, 2, 3] (by decide) rfl
    exact W.vret hx hb hr (fun t ht hW => ⟨⟨cu + 1, rfl, by rw [hF], by rw [ht]; exact hP9, hD9⟩, hS.F ht⟩) hS.2.2 d_Words_advance_19
def f_Words_pass (kd : Int32) (cu : Int32) (wk : (Nat → Int32)) : Int32 × Int32 := (if cu < 0 then (0, cu) else (if 120 ≤ cu then (0, cu) else (if 121 ≤ cu then (0, cu) else (if (wk cu.toNatClampNeg) = kd then (1, cu + 1) else (0, cu)))))
abbrev q_Words_pass (dC : Nat → ClassId) (dI : Nat → Nat → Nat) (cB cI cJ : ClassId) (oW aK aP aO : Nat) (kd : Int32) (cu : Int32) (wk : (Nat → Int32)) (wp : (Nat → Int32)) (ww : (Nat → Int64)) (A : Nat → Prop) : Array Value → State → Outcome → State → Prop := va_Qi (fun (r : Int32) (u : Int32) => r = (f_Words_pass kd cu wk).1 ∧ u = (f_Words_pass kd cu wk).2) (fun u t => va_P (dC, dI) vwCl [(oW, .inr (6, [.ref aK, .ref aP, .ref aO, .int u])), (aK, .inl (cI, 121, .inl wk)), (aP, .inl (cI, 121, .inl wp)), (aO, .inl (cJ, 121, .inr (.inl ww)))] t.heap ∧ va_D A [(oW, .inr (6, [.ref aK, .ref aP, .ref aO, .int u])), (aK, .inl (cI, 121, .inl wk)), (aP, .inl (cI, 121, .inl wp)), (aO, .inl (cJ, 121, .inr (.inl ww)))]) A
set_option maxHeartbeats 4000000 in
set_option maxRecDepth 100000 in
theorem c_Words_pass (l : Launch) (dC : Nat → ClassId) (dI : Nat → Nat → Nat) (cB cI cJ : ClassId) (oW aK aP aO : Nat) (sz : Nat) (kd : Int32) (cu : Int32) (wk : (Nat → Int32)) (wp : (Nat → Int32)) (ww : (Nat → Int64)) : Met l y_Words_pass (cw_Words_pass :: bgw) { frames := 0, cells := 0, slots := 0, locals := 0 } (va_Pc [.ref oW, .int kd] (kb_B dC dI cB cI cJ [(oW, .inr (6, [.ref aK, .ref aP, .ref aO, .int cu])), (aK, .inl (cI, 121, .inl wk)), (aP, .inl (cI, 121, .inl wp)), (aO, .inl (cJ, 121, .inr (.inl ww)))] sz)) (q_Words_pass dC dI cB cI cJ oW aK aP aO kd cu wk wp ww (va_A [(oW, .inr (6, [.ref aK, .ref aP, .ref aO, .int cu])), (aK, .inl (cI, 121, .inl wk)), (aP, .inl (cI, 121, .inl wp)), (aO, .inl (cJ, 121, .inr (.inl ww)))] sz)) 0 0 (va_A [(oW, .inr (6, [.ref aK, .ref aP, .ref aO, .int cu])), (aK, .inl (cI, 121, .inl wk)), (aP, .inl (cI, 121, .inl wp)), (aO, .inl (cJ, 121, .inr (.inl ww)))] sz) := by
  refine Met.ofW (cc := prog_8_method_7_code) (maxL := 2) (ret := (some .boolean)) (by decide) rfl ?_
  intro p e s m args below meth c s₁ B hml hv
  obtain ⟨rfl, hsz, hP, hKx, hD0⟩ := hv
  have hx := B.exec
  have hb := B.bytes
  have hr := B.returns
  have hts := atoms_spec (ws := (cw_Words_pass :: bgw)) B.pre
  have hown : s.vm.findClass "PermitRules$Words" = some m.cls := findClass_of_methodNamed B.named
  have hlocks := B.notSynchronized
  have htb := fun (w : Cond) (h : w ∈ bgw) => hts w (List.mem_cons_of_mem _ h)
  have hK := hKx.1
  subst hsz
  have hD := hD0.self (sz := s.heap.size)
  generalize hAe : va_A [(oW, .inr (6, [.ref aK, .ref aP, .ref aO, .int cu])), (aK, .inl (cI, 121, .inl wk)), (aP, .inl (cI, 121, .inl wp)), (aO, .inl (cJ, 121, .inr (.inl ww)))] s.heap.size = A at hD ⊢
  have hA : ∀ q : Nat, s.heap.size ≤ q → A q := fun q h => by rw [← hAe]; exact Or.inr h
  have hS : va_S A s.heap s.heap [] := va_S.rf
  have hl := lv_entry ([.ref oW, .int kd]) (n := 2) (Nat.le_of_ble_eq_true rfl)
  rw [lg_entry_eq]
  generalize (lg_sl ([.ref oW, .int kd]) ++ List.replicate (2 - (lg_sl ([.ref oW, .int kd])).length) Slot.unset).toArray = ls at hl ⊢
  have hl : lv_has ls 2 [(0, .ref oW), (1, .int kd)] := hl
  have hP : va_P (dC, dI) vwCl [(oW, .inr (6, [.ref aK, .ref aP, .ref aO, .int cu])), (aK, .inl (cI, 121, .inl wk)), (aP, .inl (cI, 121, .inl wp)), (aO, .inl (cJ, 121, .inr (.inl ww)))] s.heap := hP
  have hF : f_Words_pass kd cu wk = (if cu < 0 then (0, cu) else (if 120 ≤ cu then (0, cu) else (if 121 ≤ cu then (0, cu) else (if (wk cu.toNatClampNeg) = kd then (1, cu + 1) else (0, cu))))) := rfl
  refine lv_aload_n hx hb d_Words_pass_0 rfl (lv_at hl 0 rfl) ?_
  refine va_get (D := (dC, dI)) (ci := 6) (v := .int cu) (C := "PermitRules$Words") (T := T_Words) (N := 4) hx hb htb in_Words hown hK hP 0 rfl rfl 3 (by decide) (htb _ mb_53) (fun _ h9 => h9) rfl d_Words_pass_1 ?_
  refine lv_if_lt (tgt := 41) hx hb d_Words_pass_4 (by decide) (fun c_1 => ?_) (fun c_1 => ?_)
  · have hF := hF.trans (if_pos c_1)
    refine lv_iconst (v := 0) hx hb d_Words_pass_41 (by decide) ?_
    have hP9 := hP.sub (ws' := [(oW, .inr (6, [.ref aK, .ref aP, .ref aO, .int cu])), (aK, .inl (cI, 121, .inl wk)), (aP, .inl (cI, 121, .inl wp)), (aO, .inl (cJ, 121, .inr (.inl ww)))]) [0, 1, 2, 3] rfl
    have hD9 := hD.sub (ws' := [(oW, .inr (6, [.ref aK, .ref aP, .ref aO, .int cu])), (aK, .inl (cI, 121, .inl wk)), (aP, .inl (cI, 121, .inl wp)), (aO, .inl (cJ, 121, .inr (.inl ww)))]) [0, 1, 2, 3] (by decide) rfl
    exact W.zret (v := (0 : Int32)) hx hb hr (rfl) (fun t ht hW => ⟨⟨(0 : Int32), cu, rfl, ⟨by rw [hF], by rw [hF]⟩, by rw [ht]; exact hP9, hD9⟩, hS.F ht⟩) hS.2.2 d_Words_pass_42
  · have hF := hF.trans (if_neg c_1)
    refine lv_aload_n hx hb d_Words_pass_7 rfl (lv_at hl 0 rfl) ?_
    refine va_get (D := (dC, dI)) (ci := 6) (v := .int cu) (C := "PermitRules$Words") (T := T_Words) (N := 4) hx hb htb in_Words hown hK hP 0 rfl rfl 3 (by decide) (htb _ mb_53) (fun _ h9 => h9) rfl d_Words_pass_8 ?_
    refine lv_bipush (v := 120) hx hb d_Words_pass_11 (by decide) ?_
    refine lv_icmp_ge (tgt := 41) hx hb d_Words_pass_13 (by decide) (fun c_2 => ?_) (fun c_2 => ?_)
    · have hF := hF.trans (if_pos c_2)
      refine lv_iconst (v := 0) hx hb d_Words_pass_41 (by decide) ?_
      have hP9 := hP.sub (ws' := [(oW, .inr (6, [.ref aK, .ref aP, .ref aO, .int cu])), (aK, .inl (cI, 121, .inl wk)), (aP, .inl (cI, 121, .inl wp)), (aO, .inl (cJ, 121, .inr (.inl ww)))]) [0, 1, 2, 3] rfl
      have hD9 := hD.sub (ws' := [(oW, .inr (6, [.ref aK, .ref aP, .ref aO, .int cu])), (aK, .inl (cI, 121, .inl wk)), (aP, .inl (cI, 121, .inl wp)), (aO, .inl (cJ, 121, .inr (.inl ww)))]) [0, 1, 2, 3] (by decide) rfl
      exact W.zret (v := (0 : Int32)) hx hb hr (rfl) (fun t ht hW => ⟨⟨(0 : Int32), cu, rfl, ⟨by rw [hF], by rw [hF]⟩, by rw [ht]; exact hP9, hD9⟩, hS.F ht⟩) hS.2.2 d_Words_pass_42
    · have hF := hF.trans (if_neg c_2)
      refine lv_aload_n hx hb d_Words_pass_16 rfl (lv_at hl 0 rfl) ?_
      refine va_get (D := (dC, dI)) (ci := 6) (v := .int cu) (C := "PermitRules$Words") (T := T_Words) (N := 4) hx hb htb in_Words hown hK hP 0 rfl rfl 3 (by decide) (htb _ mb_53) (fun _ h9 => h9) rfl d_Words_pass_17 ?_
      refine lv_aload_n hx hb d_Words_pass_20 rfl (lv_at hl 0 rfl) ?_
      refine va_get (D := (dC, dI)) (ci := 6) (v := .ref aK) (C := "PermitRules$Words") (T := T_Words) (N := 4) hx hb htb in_Words hown hK hP 0 rfl rfl 0 (by decide) (htb _ mb_50) (fun _ h9 => h9) rfl d_Words_pass_21 ?_
      refine va_alen (v := 121) hx hb hK hP 1 1 rfl rfl (by rfl) d_Words_pass_24 ?_
      refine lv_icmp_ge (tgt := 41) hx hb d_Words_pass_25 (by decide) (fun c_3 => ?_) (fun c_3 => ?_)
      · have hF := hF.trans (if_pos c_3)
        refine lv_iconst (v := 0) hx hb d_Words_pass_41 (by decide) ?_
        have hP9 := hP.sub (ws' := [(oW, .inr (6, [.ref aK, .ref aP, .ref aO, .int cu])), (aK, .inl (cI, 121, .inl wk)), (aP, .inl (cI, 121, .inl wp)), (aO, .inl (cJ, 121, .inr (.inl ww)))]) [0, 1, 2, 3] rfl
        have hD9 := hD.sub (ws' := [(oW, .inr (6, [.ref aK, .ref aP, .ref aO, .int cu])), (aK, .inl (cI, 121, .inl wk)), (aP, .inl (cI, 121, .inl wp)), (aO, .inl (cJ, 121, .inr (.inl ww)))]) [0, 1, 2, 3] (by decide) rfl
        exact W.zret (v := (0 : Int32)) hx hb hr (rfl) (fun t ht hW => ⟨⟨(0 : Int32), cu, rfl, ⟨by rw [hF], by rw [hF]⟩, by rw [ht]; exact hP9, hD9⟩, hS.F ht⟩) hS.2.2 d_Words_pass_42
      · have hF := hF.trans (if_neg c_3)
        refine lv_aload_n hx hb d_Words_pass_28 rfl (lv_at hl 0 rfl) ?_
        refine va_get (D := (dC, dI)) (ci := 6) (v := .ref aK) (C := "PermitRules$Words") (T := T_Words) (N := 4) hx hb htb in_Words hown hK hP 0 rfl rfl 0 (by decide) (htb _ mb_50) (fun _ h9 => h9) rfl d_Words_pass_29 ?_
        refine lv_aload_n hx hb d_Words_pass_32 rfl (lv_at hl 0 rfl) ?_
        refine va_get (D := (dC, dI)) (ci := 6) (v := .int cu) (C := "PermitRules$Words") (T := T_Words) (N := 4) hx hb htb in_Words hown hK hP 0 rfl rfl 3 (by decide) (htb _ mb_53) (fun _ h9 => h9) rfl d_Words_pass_33 ?_
        refine va_iald hx hb hK hP 1 1 rfl rfl (oi_in (N := 121) (by decide) c_1 c_3) d_Words_pass_36 ?_
        refine lv_iload_n hx hb d_Words_pass_37 rfl (lv_at hl 1 rfl) ?_
        refine lv_icmp_eq (tgt := 43) hx hb d_Words_pass_38 (by decide) (fun c_4 => ?_) (fun c_4 => ?_)
        · have hF := hF.trans (if_pos c_4)
          refine lv_aload_n hx hb d_Words_pass_43 rfl (lv_at hl 0 rfl) ?_
          refine lv_dup hx hb d_Words_pass_44 rfl ?_
          refine va_get (D := (dC, dI)) (ci := 6) (v := .int cu) (C := "PermitRules$Words") (T := T_Words) (N := 4) hx hb htb in_Words hown hK hP 0 rfl rfl 3 (by decide) (htb _ mb_53) (fun _ h9 => h9) rfl d_Words_pass_45 ?_
          refine lv_iconst (v := 1) hx hb d_Words_pass_48 (by decide) ?_
          refine lv_iadd hx hb d_Words_pass_49 ?_
          refine va_put (D := (dC, dI)) (ci := 6) (v := .int (cu + 1)) (ty := .int) (C := "PermitRules$Words") (T := T_Words) (N := 4) hx hb htb in_Words ty_Words to_Words nm_Words hown hK hP hD hS 0 rfl rfl 3 (by decide) (htb _ mb_53) (fun _ h9 => h9) rfl (by decide +kernel) rfl rfl (Nat.le_of_ble_eq_true rfl) d_Words_pass_50 (fun H locs hP hD hS => ?_)
          have hP : va_P (dC, dI) vwCl [(oW, .inr (6, [.ref aK, .ref aP, .ref aO, .int (cu + 1)])), (aK, .inl (cI, 121, .inl wk)), (aP, .inl (cI, 121, .inl wp)), (aO, .inl (cJ, 121, .inr (.inl ww)))] H := hP
          have hD : va_D A [(oW, .inr (6, [.ref aK, .ref aP, .ref aO, .int (cu + 1)])), (aK, .inl (cI, 121, .inl wk)), (aP, .inl (cI, 121, .inl wp)), (aO, .inl (cJ, 121, .inr (.inl ww)))] := hD
          refine lv_iconst (v := 1) hx hb d_Words_pass_53 (by decide) ?_
          have hP9 := hP.sub (ws' := [(oW, .inr (6, [.ref aK, .ref aP, .ref aO, .int (cu + 1)])), (aK, .inl (cI, 121, .inl wk)), (aP, .inl (cI, 121, .inl wp)), (aO, .inl (cJ, 121, .inr (.inl ww)))]) [0, 1, 2, 3] rfl
          have hD9 := hD.sub (ws' := [(oW, .inr (6, [.ref aK, .ref aP, .ref aO, .int (cu + 1)])), (aK, .inl (cI, 121, .inl wk)), (aP, .inl (cI, 121, .inl wp)), (aO, .inl (cJ, 121, .inr (.inl ww)))]) [0, 1, 2, 3] (by decide) rfl
          exact W.zret (v := (1 : Int32)) hx hb hr (rfl) (fun t ht hW => ⟨⟨(1 : Int32), cu + 1, rfl, ⟨by rw [hF], by rw [hF]⟩, by rw [ht]; exact hP9, hD9⟩, hS.F ht⟩) hS.2.2 d_Words_pass_54
        · have hF := hF.trans (if_neg c_4)
          refine lv_iconst (v := 0) hx hb d_Words_pass_41 (by decide) ?_
          have hP9 := hP.sub (ws' := [(oW, .inr (6, [.ref aK, .ref aP, .ref aO, .int cu])), (aK, .inl (cI, 121, .inl wk)), (aP, .inl (cI, 121, .inl wp)), (aO, .inl (cJ, 121, .inr (.inl ww)))]) [0, 1, 2, 3] rfl
          have hD9 := hD.sub (ws' := [(oW, .inr (6, [.ref aK, .ref aP, .ref aO, .int cu])), (aK, .inl (cI, 121, .inl wk)), (aP, .inl (cI, 121, .inl wp)), (aO, .inl (cJ, 121, .inr (.inl ww)))]) [0, 1, 2, 3] (by decide) rfl
          exact W.zret (v := (0 : Int32)) hx hb hr (rfl) (fun t ht hW => ⟨⟨(0 : Int32), cu, rfl, ⟨by rw [hF], by rw [hF]⟩, by rw [ht]; exact hP9, hD9⟩, hS.F ht⟩) hS.2.2 d_Words_pass_42
def f_Words_behindBlanks_L2 (fr : Int32) (tl : Int32) (tf : (Nat → Int32)) : Nat → Int32 → Int32
  | 0, _ => 0
  | n + 1, pl => (if 800 ≤ pl then pl else (lt_ (f_Text_at pl tl tf) fun z_2 => (if z_2 = 32 then (f_Words_behindBlanks_L2 fr tl tf n (pl + 1)) else pl)))
theorem f_Words_behindBlanks_L2_s (fr : Int32) (tl : Int32) (tf : (Nat → Int32)) (n : Nat) (pl : Int32) : f_Words_behindBlanks_L2 fr tl tf (n + 1) pl = (if 800 ≤ pl then pl else (lt_ (f_Text_at pl tl tf) fun z_2 => (if z_2 = 32 then (f_Words_behindBlanks_L2 fr tl tf n (pl + 1)) else pl))) := rfl
def f_Words_behindBlanks (fr : Int32) (tl : Int32) (tf : (Nat → Int32)) : Int32 := (f_Words_behindBlanks_L2 fr tl tf 801 fr)
abbrev q_Words_behindBlanks (dC : Nat → ClassId) (dI : Nat → Nat → Nat) (cB cI cJ : ClassId) (oT aT : Nat) (fr : Int32) (tl : Int32) (tf : (Nat → Int32)) (A : Nat → Prop) : Array Value → State → Outcome → State → Prop := va_Qi (fun (r : Int32) (u : Unit) => r = f_Words_behindBlanks fr tl tf) (fun u t => va_P (dC, dI) vwCl [(oT, .inr (5, [.ref aT, .int tl])), (aT, .inl (cB, 800, .inl tf))] t.heap ∧ va_D A [(oT, .inr (5, [.ref aT, .int tl])), (aT, .inl (cB, 800, .inl tf))]) A
set_option maxHeartbeats 4000000 in
set_option maxRecDepth 100000 in
theorem c_Words_behindBlanks (l : Launch) (dC : Nat → ClassId) (dI : Nat → Nat → Nat) (cB cI cJ : ClassId) (oT aT : Nat) (sz : Nat) (fr : Int32) (tl : Int32) (tf : (Nat → Int32)) (h0 : ¬ fr < 0) : Met l y_Words_behindBlanks (cw_Words_behindBlanks :: bgw) { frames := 1, cells := 0, slots := 0, locals := 21 } (va_Pc [.ref oT, .int fr] (kb_B dC dI cB cI cJ [(oT, .inr (5, [.ref aT, .int tl])), (aT, .inl (cB, 800, .inl tf))] sz)) (q_Words_behindBlanks dC dI cB cI cJ oT aT fr tl tf (va_A [(oT, .inr (5, [.ref aT, .int tl])), (aT, .inl (cB, 800, .inl tf))] sz)) 0 0 (va_A [(oT, .inr (5, [.ref aT, .int tl])), (aT, .inl (cB, 800, .inl tf))] sz) := by
  refine Met.ofW (cc := prog_8_method_8_code) (maxL := 3) (ret := (some .int)) (by decide) rfl ?_
  intro p e s m args below meth c s₁ B hml hv
  obtain ⟨rfl, hsz, hP, hKx, hD0⟩ := hv
  have hx := B.exec
  have hb := B.bytes
  have hr := B.returns
  have hts := atoms_spec (ws := (cw_Words_behindBlanks :: bgw)) B.pre
  have hown : s.vm.findClass "PermitRules$Words" = some m.cls := findClass_of_methodNamed B.named
  have hlocks := B.notSynchronized
  have htb := fun (w : Cond) (h : w ∈ bgw) => hts w (List.mem_cons_of_mem _ h)
  have hK := hKx.1
  subst hsz
  have hD := hD0.self (sz := s.heap.size)
  generalize hAe : va_A [(oT, .inr (5, [.ref aT, .int tl])), (aT, .inl (cB, 800, .inl tf))] s.heap.size = A at hD ⊢
  have hA : ∀ q : Nat, s.heap.size ≤ q → A q := fun q h => by rw [← hAe]; exact Or.inr h
  have hS : va_S A s.heap s.heap [] := va_S.rf
  have hl := lv_entry ([.ref oT, .int fr]) (n := 3) (Nat.le_of_ble_eq_true rfl)
  rw [lg_entry_eq]
  generalize (lg_sl ([.ref oT, .int fr]) ++ List.replicate (3 - (lg_sl ([.ref oT, .int fr])).length) Slot.unset).toArray = ls at hl ⊢
  have hl : lv_has ls 3 [(0, .ref oT), (1, .int fr)] := hl
  have hP : va_P (dC, dI) vwCl [(oT, .inr (5, [.ref aT, .int tl])), (aT, .inl (cB, 800, .inl tf))] s.heap := hP
  have hF : f_Words_behindBlanks fr tl tf = (f_Words_behindBlanks_L2 fr tl tf 801 fr) := rfl
  have lp2 : ∀ (n : Nat) (pl : Int32), ¬ pl < 0 → ((800 : Int) - pl.toInt).toNat < n → f_Words_behindBlanks fr tl tf = f_Words_behindBlanks_L2 fr tl tf n pl → ∀ (H : Heap) (locs : List Loc) (ls : Array Slot), va_P (dC, dI) vwCl [(oT, .inr (5, [.ref aT, .int tl])), (aT, .inl (cB, 800, .inl tf))] H → va_D A [(oT, .inr (5, [.ref aT, .int tl])), (aT, .inl (cB, 800, .inl tf))] → va_S A s.heap H locs → lv_has ls 3 [(2, .int pl), (0, .ref oT), (1, .int fr)] → W p l e (headSpec (cw_Words_behindBlanks :: bgw) { frames := 1, cells := 0, slots := 0, locals := 21 }).room s m ([.ref oT, .int fr] : List Value).toArray below meth c H locs 0 0 (MQ below (q_Words_behindBlanks dC dI cB cI cJ oT aT fr tl tf A) ([.ref oT, .int fr] : List Value).toArray s 0 0 A) (F0 m 2 ls []) := by
    intro n
    induction n with
    | zero => intro pl i0 hn; exact absurd hn (Nat.not_lt_zero _)
    | succ n ih =>
      intro pl i0 hn hF H locs ls hP hD hS hl
      have hF := hF.trans (f_Words_behindBlanks_L2_s fr tl tf n pl)
      refine lv_iload_n hx hb d_Words_behindBlanks_2 rfl (lv_at hl 0 rfl) ?_
      refine lv_sipush (v := 800) hx hb d_Words_behindBlanks_3 (by decide) ?_
      refine lv_icmp_ge (tgt := 25) hx hb d_Words_behindBlanks_6 (by decide) (fun c_1 => ?_) (fun c_1 => ?_)
      · have hF := hF.trans (if_pos c_1)
        refine lv_iload_n hx hb d_Words_behindBlanks_25 rfl (lv_at hl 0 rfl) ?_
        have hP9 := hP.sub (ws' := [(oT, .inr (5, [.ref aT, .int tl])), (aT, .inl (cB, 800, .inl tf))]) [0, 1] rfl
        have hD9 := hD.sub (ws' := [(oT, .inr (5, [.ref aT, .int tl])), (aT, .inl (cB, 800, .inl tf))]) [0, 1] (by decide) rfl
        exact W.iret (v := pl) hx hb hr (fun t ht hW => ⟨⟨pl, (), rfl, by rw [hF], by rw [ht]; exact hP9, hD9⟩, hS.F ht⟩) hS.2.2 d_Words_behindBlanks_26
      · have hF := hF.trans (if_neg c_1)
        refine lv_aload_n hx hb d_Words_behindBlanks_9 rfl (lv_at hl 1 rfl) ?_
        refine lv_iload_n hx hb d_Words_behindBlanks_10 rfl (lv_at hl 0 rfl) ?_
        have hPc := hP.sub (ws' := [(oT, .inr (5, [.ref aT, .int tl])), (aT, .inl (cB, 800, .inl tf))]) [0, 1] rfl
        have hDc := hD.sub (ws' := [(oT, .inr (5, [.ref aT, .int tl])), (aT, .inl (cB, 800, .inl tf))]) [0, 1] (by decide) rfl
        have hFc := va_free (wc := [(oT, .inr (5, [.ref aT, .int tl])), (aT, .inl (cB, 800, .inl tf))]) hD hS hA [0, 1] rfl
        refine va_calli (va_runV (As := [.int pl]) (rest := []) ⟨hx, hb, hml, hown, htb⟩ (c_Text_at l dC dI cB cI cJ oT aT _ pl tl tf ) ⟨callB_of 1 htb (gb_all mb_231) rfl rfl rfl (htb _ mb_2) (htb _ mb_228) (by decide +kernel) ⟨Nat.le_of_ble_eq_true rfl, Nat.le_of_ble_eq_true rfl⟩, htb _ mb_229, htb _ mb_230⟩ ⟨kb_blind, va_recv hK hPc (ci := 5) (q0 := 0) rfl rfl, kb_at hPc hDc hKx⟩ rfl rfl hl.1 rfl (lv_room (Nat.le_of_ble_eq_true rfl)) d_Words_behindBlanks_11 ⟨Nat.le_of_ble_eq_true rfl, Nat.le_of_ble_eq_true rfl⟩) hS (fun q _ h => hFc q h) hFc (fun z_2 u t H1 locs ht hvm hw hB hz1 hk1 hS => ?_)
        have hz_2 := hw
        have hF := hF.trans (lt_e hz_2)
        obtain ⟨hP1, hD1⟩ := hB
        rw [ht] at hP1
        obtain ⟨hP, hD⟩ := va_join (wr := []) (w1 := [(oT, .inr (5, [.ref aT, .int tl])), (aT, .inl (cB, 800, .inl tf))]) hP hD [0, 1] [] rfl rfl (by decide) (by decide) hk1 hFc hP1 hD1
        generalize H1 = H at hP hS ⊢
        have hP : va_P (dC, dI) vwCl [(oT, .inr (5, [.ref aT, .int tl])), (aT, .inl (cB, 800, .inl tf))] H := hP
        have hD : va_D A [(oT, .inr (5, [.ref aT, .int tl])), (aT, .inl (cB, 800, .inl tf))] := hD
        refine lv_bipush (v := 32) hx hb d_Words_behindBlanks_14 (by decide) ?_
        refine lv_icmp_ne (tgt := 25) hx hb d_Words_behindBlanks_16 (by decide) (fun c_3 => ?_) (fun c_3 => ?_)
        · have hF := hF.trans (if_neg c_3)
          refine lv_iload_n hx hb d_Words_behindBlanks_25 rfl (lv_at hl 0 rfl) ?_
          have hP9 := hP.sub (ws' := [(oT, .inr (5, [.ref aT, .int tl])), (aT, .inl (cB, 800, .inl tf))]) [0, 1] rfl
          have hD9 := hD.sub (ws' := [(oT, .inr (5, [.ref aT, .int tl])), (aT, .inl (cB, 800, .inl tf))]) [0, 1] (by decide) rfl
          exact W.iret (v := pl) hx hb hr (fun t ht hW => ⟨⟨pl, (), rfl, by rw [hF], by rw [ht]; exact hP9, hD9⟩, hS.F ht⟩) hS.2.2 d_Words_behindBlanks_26
        · have hF := hF.trans (if_pos c_3)
          refine lv_iinc (v := pl + 1) (lv' := [(2, .int (pl + 1)), (0, .ref oT), (1, .int fr)]) hx hb d_Words_behindBlanks_19 hl (k := 0) rfl (by first | rfl | decide) (by decide) rfl (fun ls hl => ?_)
          refine lv_goto (tgt := 2) hx hb d_Words_behindBlanks_22 (by decide) ?_
          exact ih (pl + 1) (oi_s i0 c_1 (by decide) hn).1 (oi_s i0 c_1 (by decide) hn).2 hF _ _ _ (hP.sub [0, 1] rfl) (hD.sub [0, 1] (by decide) rfl) hS (lv_sub hl [0, 1, 2] rfl)
  refine lv_iload_n hx hb d_Words_behindBlanks_0 rfl (lv_at hl 1 rfl) ?_
  refine lv_istore_n (lv' := [(2, .int fr), (0, .ref oT), (1, .int fr)]) hx hb d_Words_behindBlanks_1 rfl hl (by decide) rfl (fun ls hl => ?_)
  exact lp2 801 fr h0 (oi_f h0 (by decide)) hF _ _ _ (hP.sub [0, 1] rfl) (hD.sub [0, 1] (by decide) rfl) hS (lv_sub hl [0, 1, 2] rfl)
def f_Words_behindWord_L48 (fr : Int32) (tl : Int32) (tf : (Nat → Int32)) : Nat → Int32 → Int32
  | 0, _ => 0
  | n + 1, pl => (if 800 ≤ pl then pl else (lt_ (f_Text_at pl tl tf) fun z_13 => (lt_ (f_PR_isLetter z_13) fun z_14 => (if z_14 = 0 then pl else (f_Words_behindWord_L48 fr tl tf n (pl + 1))))))
theorem f_Words_behindWord_L48_s (fr : Int32) (tl : Int32) (tf : (Nat → Int32)) (n : Nat) (pl : Int32) : f_Words_behindWord_L48 fr tl tf (n + 1) pl = (if 800 ≤ pl then pl else (lt_ (f_Text_at pl tl tf) fun z_13 => (lt_ (f_PR_isLetter z_13) fun z_14 => (if z_14 = 0 then pl else (f_Words_behindWord_L48 fr tl tf n (pl + 1)))))) := rfl
def f_Words_behindWord_L17 (fr : Int32) (tl : Int32) (tf : (Nat → Int32)) : Nat → Int32 → Int32
  | 0, _ => 0
  | n + 1, pl => (if 800 ≤ pl then pl else (lt_ (f_Text_at pl tl tf) fun z_17 => (lt_ (f_PR_isDigit z_17) fun z_18 => (if z_18 = 0 then pl else (f_Words_behindWord_L17 fr tl tf n (pl + 1))))))
theorem f_Words_behindWord_L17_s (fr : Int32) (tl : Int32) (tf : (Nat → Int32)) (n : Nat) (pl : Int32) : f_Words_behindWord_L17 fr tl tf (n + 1) pl = (if 800 ≤ pl then pl else (lt_ (f_Text_at pl tl tf) fun z_17 => (lt_ (f_PR_isDigit z_17) fun z_18 => (if z_18 = 0 then pl else (f_Words_behindWord_L17 fr tl tf n (pl + 1)))))) := rfl
def f_Words_behindWord (fr : Int32) (tl : Int32) (tf : (Nat → Int32)) : Int32 := (lt_ (f_Text_at fr tl tf) fun z_1 => (lt_ (f_PR_isDigit z_1) fun z_2 => (if z_2 = 0 then (lt_ (f_PR_isLetter z_1) fun z_4 => (if z_4 = 0 then (if z_1 = 60 then (lt_ (f_Text_at (fr + 1) tl tf) fun z_7 => (if z_7 = 61 then (fr + 1) + 1 else fr + 1)) else (if z_1 = 62 then (lt_ (f_Text_at (fr + 1) tl tf) fun z_10 => (if z_10 = 61 then (fr + 1) + 1 else fr + 1)) else fr + 1)) else (f_Words_behindWord_L48 fr tl tf 801 (fr + 1)))) else (f_Words_behindWord_L17 fr tl tf 801 (fr + 1)))))
abbrev q_Words_behindWord (dC : Nat → ClassId) (dI : Nat → Nat → Nat) (cB cI cJ : ClassId) (oT aT : Nat) (fr : Int32) (tl : Int32) (tf : (Nat → Int32)) (A : Nat → Prop) : Array Value → State → Outcome → State → Prop := va_Qi (fun (r : Int32) (u : Unit) => r = f_Words_behindWord fr tl tf) (fun u t => va_P (dC, dI) vwCl [(oT, .inr (5, [.ref aT, .int tl])), (aT, .inl (cB, 800, .inl tf))] t.heap ∧ va_D A [(oT, .inr (5, [.ref aT, .int tl])), (aT, .inl (cB, 800, .inl tf))]) A
set_option maxHeartbeats 4000000 in
set_option maxRecDepth 100000 in
theorem c_Words_behindWord (l : Launch) (dC : Nat → ClassId) (dI : Nat → Nat → Nat) (cB cI cJ : ClassId) (oT aT : Nat) (sz : Nat) (fr : Int32) (tl : Int32) (tf : (Nat → Int32)) (h0 : ¬ fr < 0) (h1 : fr.toInt < 2000000000) : Met l y_Words_behindWord (cw_Words_behindWord :: bgw) { frames := 1, cells := 0, slots := 0, locals := 21 } (va_Pc [.ref oT, .int fr] (kb_B dC dI cB cI cJ [(oT, .inr (5, [.ref aT, .int tl])), (aT, .inl (cB, 800, .inl tf))] sz)) (q_Words_behindWord dC dI cB cI cJ oT aT fr tl tf (va_A [(oT, .inr (5, [.ref aT, .int tl])), (aT, .inl (cB, 800, .inl tf))] sz)) 0 0 (va_A [(oT, .inr (5, [.ref aT, .int tl])), (aT, .inl (cB, 800, .inl tf))] sz) := by
  refine Met.ofW (cc := prog_8_method_9_code) (maxL := 4) (ret := (some .int)) (by decide) rfl ?_
  intro p e s m args below meth c s₁ B hml hv
  obtain ⟨rfl, hsz, hP, hKx, hD0⟩ := hv
  have hx := B.exec
  have hb := B.bytes
  have hr := B.returns
  have hts := atoms_spec (ws := (cw_Words_behindWord :: bgw)) B.pre
  have hown : s.vm.findClass "PermitRules$Words" = some m.cls := findClass_of_methodNamed B.named
  have hlocks := B.notSynchronized
  have htb := fun (w : Cond) (h : w ∈ bgw) => hts w (List.mem_cons_of_mem _ h)
  have hK := hKx.1
  subst hsz
  have hD := hD0.self (sz := s.heap.size)
  generalize hAe : va_A [(oT, .inr (5, [.ref aT, .int tl])), (aT, .inl (cB, 800, .inl tf))] s.heap.size = A at hD ⊢
  have hA : ∀ q : Nat, s.heap.size ≤ q → A q := fun q h => by rw [← hAe]; exact Or.inr h
  have hS : va_S A s.heap s.heap [] := va_S.rf
  have hl := lv_entry ([.ref oT, .int fr]) (n := 4) (Nat.le_of_ble_eq_true rfl)
  rw [lg_entry_eq]
  generalize (lg_sl ([.ref oT, .int fr]) ++ List.replicate (4 - (lg_sl ([.ref oT, .int fr])).length) Slot.unset).toArray = ls at hl ⊢
  have hl : lv_has ls 4 [(0, .ref oT), (1, .int fr)] := hl
  have hP : va_P (dC, dI) vwCl [(oT, .inr (5, [.ref aT, .int tl])), (aT, .inl (cB, 800, .inl tf))] s.heap := hP
  have hF : f_Words_behindWord fr tl tf = (lt_ (f_Text_at fr tl tf) fun z_1 => (lt_ (f_PR_isDigit z_1) fun z_2 => (if z_2 = 0 then (lt_ (f_PR_isLetter z_1) fun z_4 => (if z_4 = 0 then (if z_1 = 60 then (lt_ (f_Text_at (fr + 1) tl tf) fun z_7 => (if z_7 = 61 then (fr + 1) + 1 else fr + 1)) else (if z_1 = 62 then (lt_ (f_Text_at (fr + 1) tl tf) fun z_10 => (if z_10 = 61 then (fr + 1) + 1 else fr + 1)) else fr + 1)) else (f_Words_behindWord_L48 fr tl tf 801 (fr + 1)))) else (f_Words_behindWord_L17 fr tl tf 801 (fr + 1))))) := rfl
  have lp48 : ∀ (n : Nat) (pl : Int32), ¬ pl < 0 → ((800 : Int) - pl.toInt).toNat < n → f_Words_behindWord fr tl tf = f_Words_behindWord_L48 fr tl tf n pl → ∀ (H : Heap) (locs : List Loc) (ls : Array Slot), va_P (dC, dI) vwCl [(oT, .inr (5, [.ref aT, .int tl])), (aT, .inl (cB, 800, .inl tf))] H → va_D A [(oT, .inr (5, [.ref aT, .int tl])), (aT, .inl (cB, 800, .inl tf))] → va_S A s.heap H locs → lv_has ls 4 [(3, .int pl), (0, .ref oT), (1, .int fr)] → W p l e (headSpec (cw_Words_behindWord :: bgw) { frames := 1, cells := 0, slots := 0, locals := 21 }).room s m ([.ref oT, .int fr] : List Value).toArray below meth c H locs 0 0 (MQ below (q_Words_behindWord dC dI cB cI cJ oT aT fr tl tf A) ([.ref oT, .int fr] : List Value).toArray s 0 0 A) (F0 m 48 ls []) := by
    intro n
    induction n with
    | zero => intro pl i0 hn; exact absurd hn (Nat.not_lt_zero _)
    | succ n ih =>
      intro pl i0 hn hF H locs ls hP hD hS hl
      have hF := hF.trans (f_Words_behindWord_L48_s fr tl tf n pl)
      refine lv_iload_n hx hb d_Words_behindWord_48 rfl (lv_at hl 0 rfl) ?_
      refine lv_sipush (v := 800) hx hb d_Words_behindWord_49 (by decide) ?_
      refine lv_icmp_ge (tgt := 97) hx hb d_Words_behindWord_52 (by decide) (fun c_12 => ?_) (fun c_12 => ?_)
      · have hF := hF.trans (if_pos c_12)
        refine lv_iload_n hx hb d_Words_behindWord_97 rfl (lv_at hl 0 rfl) ?_
        have hP9 := hP.sub (ws' := [(oT, .inr (5, [.ref aT, .int tl])), (aT, .inl (cB, 800, .inl tf))]) [0, 1] rfl
        have hD9 := hD.sub (ws' := [(oT, .inr (5, [.ref aT, .int tl])), (aT, .inl (cB, 800, .inl tf))]) [0, 1] (by decide) rfl
        exact W.iret (v := pl) hx hb hr (fun t ht hW => ⟨⟨pl, (), rfl, by rw [hF], by rw [ht]; exact hP9, hD9⟩, hS.F ht⟩) hS.2.2 d_Words_behindWord_98
      · have hF := hF.trans (if_neg c_12)
        refine lv_aload_n hx hb d_Words_behindWord_55 rfl (lv_at hl 1 rfl) ?_
        refine lv_iload_n hx hb d_Words_behindWord_56 rfl (lv_at hl 0 rfl) ?_
        have hPc := hP.sub (ws' := [(oT, .inr (5, [.ref aT, .int tl])), (aT, .inl (cB, 800, .inl tf))]) [0, 1] rfl
        have hDc := hD.sub (ws' := [(oT, .inr (5, [.ref aT, .int tl])), (aT, .inl (cB, 800, .inl tf))]) [0, 1] (by decide) rfl
        have hFc := va_free (wc := [(oT, .inr (5, [.ref aT, .int tl])), (aT, .inl (cB, 800, .inl tf))]) hD hS hA [0, 1] rfl
        refine va_calli (va_runV (As := [.int pl]) (rest := []) ⟨hx, hb, hml, hown, htb⟩ (c_Text_at l dC dI cB cI cJ oT aT _ pl tl tf ) ⟨callB_of 1 htb (gb_all mb_231) rfl rfl rfl (htb _ mb_2) (htb _ mb_228) (by decide +kernel) ⟨Nat.le_of_ble_eq_true rfl, Nat.le_of_ble_eq_true rfl⟩, htb _ mb_229, htb _ mb_230⟩ ⟨kb_blind, va_recv hK hPc (ci := 5) (q0 := 0) rfl rfl, kb_at hPc hDc hKx⟩ rfl rfl hl.1 rfl (lv_room (Nat.le_of_ble_eq_true rfl)) d_Words_behindWord_57 ⟨Nat.le_of_ble_eq_true rfl, Nat.le_of_ble_eq_true rfl⟩) hS (fun q _ h => hFc q h) hFc (fun z_13 u t H1 locs ht hvm hw hB hz1 hk1 hS => ?_)
        have hz_13 := hw
        have hF := hF.trans (lt_e hz_13)
        obtain ⟨hP1, hD1⟩ := hB
        rw [ht] at hP1
        obtain ⟨hP, hD⟩ := va_join (wr := []) (w1 := [(oT, .inr (5, [.ref aT, .int tl])), (aT, .inl (cB, 800, .inl tf))]) hP hD [0, 1] [] rfl rfl (by decide) (by decide) hk1 hFc hP1 hD1
        generalize H1 = H at hP hS ⊢
        have hP : va_P (dC, dI) vwCl [(oT, .inr (5, [.ref aT, .int tl])), (aT, .inl (cB, 800, .inl tf))] H := hP
        have hD : va_D A [(oT, .inr (5, [.ref aT, .int tl])), (aT, .inl (cB, 800, .inl tf))] := hD
        have hPc := hP.sub (ws' := []) [] rfl
        have hDc := hD.sub (ws' := []) [] (by decide) rfl
        have hFc := va_free (wc := []) hD hS hA [] rfl
        refine va_calli (va_runSN (As := [.int z_13]) (rest := []) ⟨hx, hb, hml, hown, htb⟩ (c_PR_isLetter l dC dI cB cI cJ  _ z_13 ) ⟨va_cnB 1 htb (gb_all mb_240) rfl rfl rfl (hKx.2.2 _ nn_8) (htb _ mb_1) (by decide +kernel) ⟨Nat.le_of_ble_eq_true rfl, Nat.le_of_ble_eq_true rfl⟩, htb _ mb_239, trivial⟩ ⟨kb_blind, kb_at hPc hDc hKx⟩ rfl rfl hl.1 rfl (lv_room (Nat.le_of_ble_eq_true rfl)) d_Words_behindWord_60 ⟨Nat.le_of_ble_eq_true rfl, Nat.le_of_ble_eq_true rfl⟩) hS (fun q _ h => hFc q h) hFc (fun z_14 u t H1 locs ht hvm hw hB hz1 hk1 hS => ?_)
        have hz_14 := hw
        have hF := hF.trans (lt_e hz_14)
        obtain ⟨hP1, hD1⟩ := hB
        rw [ht] at hP1
        obtain ⟨hP, hD⟩ := va_join (wr := [(oT, .inr (5, [.ref aT, .int tl])), (aT, .inl (cB, 800, .inl tf))]) (w1 := []) hP hD [] [0, 1] rfl rfl (by decide) (by decide) hk1 hFc hP1 hD1
        generalize H1 = H at hP hS ⊢
        have hP : va_P (dC, dI) vwCl [(oT, .inr (5, [.ref aT, .int tl])), (aT, .inl (cB, 800, .inl tf))] H := hP
        have hD : va_D A [(oT, .inr (5, [.ref aT, .int tl])), (aT, .inl (cB, 800, .inl tf))] := hD
        refine lv_if_eq (tgt := 97) hx hb d_Words_behindWord_63 (by decide) (fun c_15 => ?_) (fun c_15 => ?_)
        · have hF := hF.trans (if_pos c_15)
          refine lv_iload_n hx hb d_Words_behindWord_97 rfl (lv_at hl 0 rfl) ?_
          have hP9 := hP.sub (ws' := [(oT, .inr (5, [.ref aT, .int tl])), (aT, .inl (cB, 800, .inl tf))]) [0, 1] rfl
          have hD9 := hD.sub (ws' := [(oT, .inr (5, [.ref aT, .int tl])), (aT, .inl (cB, 800, .inl tf))]) [0, 1] (by decide) rfl
          exact W.iret (v := pl) hx hb hr (fun t ht hW => ⟨⟨pl, (), rfl, by rw [hF], by rw [ht]; exact hP9, hD9⟩, hS.F ht⟩) hS.2.2 d_Words_behindWord_98
        · have hF := hF.trans (if_neg c_15)
          refine lv_iinc (v := pl + 1) (lv' := [(3, .int (pl + 1)), (0, .ref oT), (1, .int fr)]) hx hb d_Words_behindWord_66 hl (k := 0) rfl (by first | rfl | decide) (by decide) rfl (fun ls hl => ?_)
          refine lv_goto (tgt := 48) hx hb d_Words_behindWord_69 (by decide) ?_
          exact ih (pl + 1) (oi_s i0 c_12 (by decide) hn).1 (oi_s i0 c_12 (by decide) hn).2 hF _ _ _ (hP.sub [0, 1] rfl) (hD.sub [0, 1] (by decide) rfl) hS (lv_sub hl [0, 1, 2] rfl)
  have lp17 : ∀ (n : Nat) (pl : Int32), ¬ pl < 0 → ((800 : Int) - pl.toInt).toNat < n → f_Words_behindWord fr tl tf = f_Words_behindWord_L17 fr tl tf n pl → ∀ (H : Heap) (locs : List Loc) (ls : Array Slot), va_P (dC, dI) vwCl [(oT, .inr (5, [.ref aT, .int tl])), (aT, .inl (cB, 800, .inl tf))] H → va_D A [(oT, .inr (5, [.ref aT, .int tl])), (aT, .inl (cB, 800, .inl tf))] → va_S A s.heap H locs → lv_has ls 4 [(3, .int pl), (0, .ref oT), (1, .int fr)] → W p l e (headSpec (cw_Words_behindWord :: bgw) { frames := 1, cells := 0, slots := 0, locals := 21 }).room s m ([.ref oT, .int fr] : List Value).toArray below meth c H locs 0 0 (MQ below (q_Words_behindWord dC dI cB cI cJ oT aT fr tl tf A) ([.ref oT, .int fr] : List Value).toArray s 0 0 A) (F0 m 17 ls []) := by
    intro n
    induction n with
    | zero => intro pl i0 hn; exact absurd hn (Nat.not_lt_zero _)
    | succ n ih =>
      intro pl i0 hn hF H locs ls hP hD hS hl
      have hF := hF.trans (f_Words_behindWord_L17_s fr tl tf n pl)
      refine lv_iload_n hx hb d_Words_behindWord_17 rfl (lv_at hl 0 rfl) ?_
      refine lv_sipush (v := 800) hx hb d_Words_behindWord_18 (by decide) ?_
      refine lv_icmp_ge (tgt := 97) hx hb d_Words_behindWord_21 (by decide) (fun c_16 => ?_) (fun c_16 => ?_)
      · have hF := hF.trans (if_pos c_16)
        refine lv_iload_n hx hb d_Words_behindWord_97 rfl (lv_at hl 0 rfl) ?_
        have hP9 := hP.sub (ws' := [(oT, .inr (5, [.ref aT, .int tl])), (aT, .inl (cB, 800, .inl tf))]) [0, 1] rfl
        have hD9 := hD.sub (ws' := [(oT, .inr (5, [.ref aT, .int tl])), (aT, .inl (cB, 800, .inl tf))]) [0, 1] (by decide) rfl
        exact W.iret (v := pl) hx hb hr (fun t ht hW => ⟨⟨pl, (), rfl, by rw [hF], by rw [ht]; exact hP9, hD9⟩, hS.F ht⟩) hS.2.2 d_Words_behindWord_98
      · have hF := hF.trans (if_neg c_16)
        refine lv_aload_n hx hb d_Words_behindWord_24 rfl (lv_at hl 1 rfl) ?_
        refine lv_iload_n hx hb d_Words_behindWord_25 rfl (lv_at hl 0 rfl) ?_
        have hPc := hP.sub (ws' := [(oT, .inr (5, [.ref aT, .int tl])), (aT, .inl (cB, 800, .inl tf))]) [0, 1] rfl
        have hDc := hD.sub (ws' := [(oT, .inr (5, [.ref aT, .int tl])), (aT, .inl (cB, 800, .inl tf))]) [0, 1] (by decide) rfl
        have hFc := va_free (wc := [(oT, .inr (5, [.ref aT, .int tl])), (aT, .inl (cB, 800, .inl tf))]) hD hS hA [0, 1] rfl
        refine va_calli (va_runV (As := [.int pl]) (rest := []) ⟨hx, hb, hml, hown, htb⟩ (c_Text_at l dC dI cB cI cJ oT aT _ pl tl tf ) ⟨callB_of 1 htb (gb_all mb_231) rfl rfl rfl (htb _ mb_2) (htb _ mb_228) (by decide +kernel) ⟨Nat.le_of_ble_eq_true rfl, Nat.le_of_ble_eq_true rfl⟩, htb _ mb_229, htb _ mb_230⟩ ⟨kb_blind, va_recv hK hPc (ci := 5) (q0 := 0) rfl rfl, kb_at hPc hDc hKx⟩ rfl rfl hl.1 rfl (lv_room (Nat.le_of_ble_eq_true rfl)) d_Words_behindWord_26 ⟨Nat.le_of_ble_eq_true rfl, Nat.le_of_ble_eq_true rfl⟩) hS (fun q _ h => hFc q h) hFc (fun z_17 u t H1 locs ht hvm hw hB hz1 hk1 hS => ?_)
        have hz_17 := hw
        have hF := hF.trans (lt_e hz_17)
        obtain ⟨hP1, hD1⟩ := hB
        rw [ht] at hP1
        obtain ⟨hP, hD⟩ := va_join (wr := []) (w1 := [(oT, .inr (5, [.ref aT, .int tl])), (aT, .inl (cB, 800, .inl tf))]) hP hD [0, 1] [] rfl rfl (by decide) (by decide) hk1 hFc hP1 hD1
        generalize H1 = H at hP hS ⊢
        have hP : va_P (dC, dI) vwCl [(oT, .inr (5, [.ref aT, .int tl])), (aT, .inl (cB, 800, .inl tf))] H := hP
        have hD : va_D A [(oT, .inr (5, [.ref aT, .int tl])), (aT, .inl (cB, 800, .inl tf))] := hD
        have hPc := hP.sub (ws' := []) [] rfl
        have hDc := hD.sub (ws' := []) [] (by decide) rfl
        have hFc := va_free (wc := []) hD hS hA [] rfl
        refine va_calli (va_runSN (As := [.int z_17]) (rest := []) ⟨hx, hb, hml, hown, htb⟩ (c_PR_isDigit l dC dI cB cI cJ  _ z_17 ) ⟨va_cnB 1 htb (gb_all mb_237) rfl rfl rfl (hKx.2.2 _ nn_7) (htb _ mb_1) (by decide +kernel) ⟨Nat.le_of_ble_eq_true rfl, Nat.le_of_ble_eq_true rfl⟩, htb _ mb_236, trivial⟩ ⟨kb_blind, kb_at hPc hDc hKx⟩ rfl rfl hl.1 rfl (lv_room (Nat.le_of_ble_eq_true rfl)) d_Words_behindWord_29 ⟨Nat.le_of_ble_eq_true rfl, Nat.le_of_ble_eq_true rfl⟩) hS (fun q _ h => hFc q h) hFc (fun z_18 u t H1 locs ht hvm hw hB hz1 hk1 hS => ?_)
        have hz_18 := hw
        have hF := hF.trans (lt_e hz_18)
        obtain ⟨hP1, hD1⟩ := hB
        rw [ht] at hP1
        obtain ⟨hP, hD⟩ := va_join (wr := [(oT, .inr (5, [.ref aT, .int tl])), (aT, .inl (cB, 800, .inl tf))]) (w1 := []) hP hD [] [0, 1] rfl rfl (by decide) (by decide) hk1 hFc hP1 hD1
        generalize H1 = H at hP hS ⊢
        have hP : va_P (dC, dI) vwCl [(oT, .inr (5, [.ref aT, .int tl])), (aT, .inl (cB, 800, .inl tf))] H := hP
        have hD : va_D A [(oT, .inr (5, [.ref aT, .int tl])), (aT, .inl (cB, 800, .inl tf))] := hD
        refine lv_if_eq (tgt := 97) hx hb d_Words_behindWord_32 (by decide) (fun c_19 => ?_) (fun c_19 => ?_)
        · have hF := hF.trans (if_pos c_19)
          refine lv_iload_n hx hb d_Words_behindWord_97 rfl (lv_at hl 0 rfl) ?_
          have hP9 := hP.sub (ws' := [(oT, .inr (5, [.ref aT, .int tl])), (aT, .inl (cB, 800, .inl tf))]) [0, 1] rfl
          have hD9 := hD.sub (ws' := [(oT, .inr (5, [.ref aT, .int tl])), (aT, .inl (cB, 800, .inl tf))]) [0, 1] (by decide) rfl
          exact W.iret (v := pl) hx hb hr (fun t ht hW => ⟨⟨pl, (), rfl, by rw [hF], by rw [ht]; exact hP9, hD9⟩, hS.F ht⟩) hS.2.2 d_Words_behindWord_98
        · have hF := hF.trans (if_neg c_19)
          refine lv_iinc (v := pl + 1) (lv' := [(3, .int (pl + 1)), (0, .ref oT), (1, .int fr)]) hx hb d_Words_behindWord_35 hl (k := 0) rfl (by first | rfl | decide) (by decide) rfl (fun ls hl => ?_)
          refine lv_goto (tgt := 17) hx hb d_Words_behindWord_38 (by decide) ?_
          exact ih (pl + 1) (oi_s i0 c_16 (by decide) hn).1 (oi_s i0 c_16 (by decide) hn).2 hF _ _ _ (hP.sub [0, 1] rfl) (hD.sub [0, 1] (by decide) rfl) hS (lv_sub hl [0, 1, 2] rfl)
  refine lv_aload_n hx hb d_Words_behindWord_0 rfl (lv_at hl 0 rfl) ?_
  refine lv_iload_n hx hb d_Words_behindWord_1 rfl (lv_at hl 1 rfl) ?_
  have hPc := hP.sub (ws' := [(oT, .inr (5, [.ref aT, .int tl])), (aT, .inl (cB, 800, .inl tf))]) [0, 1] rfl
  have hDc := hD.sub (ws' := [(oT, .inr (5, [.ref aT, .int tl])), (aT, .inl (cB, 800, .inl tf))]) [0, 1] (by decide) rfl
  have hFc := va_free (wc := [(oT, .inr (5, [.ref aT, .int tl])), (aT, .inl (cB, 800, .inl tf))]) hD hS hA [0, 1] rfl
  refine va_calli (va_runV (As := [.int fr]) (rest := []) ⟨hx, hb, hml, hown, htb⟩ (c_Text_at l dC dI cB cI cJ oT aT _ fr tl tf ) ⟨callB_of 1 htb (gb_all mb_231) rfl rfl rfl (htb _ mb_2) (htb _ mb_228) (by decide +kernel) ⟨Nat.le_of_ble_eq_true rfl, Nat.le_of_ble_eq_true rfl⟩, htb _ mb_229, htb _ mb_230⟩ ⟨kb_blind, va_recv hK hPc (ci := 5) (q0 := 0) rfl rfl, kb_at hPc hDc hKx⟩ rfl rfl hl.1 rfl (lv_room (Nat.le_of_ble_eq_true rfl)) d_Words_behindWord_2 ⟨Nat.le_of_ble_eq_true rfl, Nat.le_of_ble_eq_true rfl⟩) hS (fun q _ h => hFc q h) hFc (fun z_1 u t H1 locs ht hvm hw hB hz1 hk1 hS => ?_)
  have hz_1 := hw
  have hF := hF.trans (lt_e hz_1)
  obtain ⟨hP1, hD1⟩ := hB
  rw [ht] at hP1
  obtain ⟨hP, hD⟩ := va_join (wr := []) (w1 := [(oT, .inr (5, [.ref aT, .int tl])), (aT, .inl (cB, 800, .inl tf))]) hP hD [0, 1] [] rfl rfl (by decide) (by decide) hk1 hFc hP1 hD1
  generalize H1 = H at hP hS ⊢
  have hP : va_P (dC, dI) vwCl [(oT, .inr (5, [.ref aT, .int tl])), (aT, .inl (cB, 800, .inl tf))] H := hP
  have hD : va_D A [(oT, .inr (5, [.ref aT, .int tl])), (aT, .inl (cB, 800, .inl tf))] := hD
  refine lv_istore_n (lv' := [(2, .int z_1), (0, .ref oT), (1, .int fr)]) hx hb d_Words_behindWord_5 rfl hl (by decide) rfl (fun ls hl => ?_)
  refine lv_iload_n hx hb d_Words_behindWord_6 rfl (lv_at hl 2 rfl) ?_
  refine lv_iconst (v := 1) hx hb d_Words_behindWord_7 (by decide) ?_
  refine lv_iadd hx hb d_Words_behindWord_8 ?_
  refine lv_istore_n (lv' := [(3, .int (fr + 1)), (2, .int z_1), (0, .ref oT), (1, .int fr)]) hx hb d_Words_behindWord_9 rfl hl (by decide) rfl (fun ls hl => ?_)
  refine lv_iload_n hx hb d_Words_behindWord_10 rfl (lv_at hl 1 rfl) ?_
  have hPc := hP.sub (ws' := []) [] rfl
  have hDc := hD.sub (ws' := []) [] (by decide) rfl
  have hFc := va_free (wc := []) hD hS hA [] rfl
  refine va_calli (va_runSN (As := [.int z_1]) (rest := []) ⟨hx, hb, hml, hown, htb⟩ (c_PR_isDigit l dC dI cB cI cJ  _ z_1 ) ⟨va_cnB 1 htb (gb_all mb_237) rfl rfl rfl (hKx.2.2 _ nn_7) (htb _ mb_1) (by decide +kernel) ⟨Nat.le_of_ble_eq_true rfl, Nat.le_of_ble_eq_true rfl⟩, htb _ mb_236, trivial⟩ ⟨kb_blind, kb_at hPc hDc hKx⟩ rfl rfl hl.1 rfl (lv_room (Nat.le_of_ble_eq_true rfl)) d_Words_behindWord_11 ⟨Nat.le_of_ble_eq_true rfl, Nat.le_of_ble_eq_true rfl⟩) hS (fun q _ h => hFc q h) hFc (fun z_2 u t H1 locs ht hvm hw hB hz1 hk1 hS => ?_)
  have hz_2 := hw
  have hF := hF.trans (lt_e hz_2)
  obtain ⟨hP1, hD1⟩ := hB
  rw [ht] at hP1
  obtain ⟨hP, hD⟩ := va_join (wr := [(oT, .inr (5, [.ref aT, .int tl])), (aT, .inl (cB, 800, .inl tf))]) (w1 := []) hP hD [] [0, 1] rfl rfl (by decide) (by decide) hk1 hFc hP1 hD1
  generalize H1 = H at hP hS ⊢
  have hP : va_P (dC, dI) vwCl [(oT, .inr (5, [.ref aT, .int tl])), (aT, .inl (cB, 800, .inl tf))] H := hP
  have hD : va_D A [(oT, .inr (5, [.ref aT, .int tl])), (aT, .inl (cB, 800, .inl tf))] := hD
  refine lv_if_eq (tgt := 41) hx hb d_Words_behindWord_14 (by decide) (fun c_3 => ?_) (fun c_3 => ?_)
  · have hF := hF.trans (if_pos c_3)
    refine lv_iload_n hx hb d_Words_behindWord_41 rfl (lv_at hl 1 rfl) ?_
    have hPc := hP.sub (ws' := []) [] rfl
    have hDc := hD.sub (ws' := []) [] (by decide) rfl
    have hFc := va_free (wc := []) hD hS hA [] rfl
    refine va_calli (va_runSN (As := [.int z_1]) (rest := []) ⟨hx, hb, hml, hown, htb⟩ (c_PR_isLetter l dC dI cB cI cJ  _ z_1 ) ⟨va_cnB 1 htb (gb_all mb_240) rfl rfl rfl (hKx.2.2 _ nn_8) (htb _ mb_1) (by decide +kernel) ⟨Nat.le_of_ble_eq_true rfl, Nat.le_of_ble_eq_true rfl⟩, htb _ mb_239, trivial⟩ ⟨kb_blind, kb_at hPc hDc hKx⟩ rfl rfl hl.1 rfl (lv_room (Nat.le_of_ble_eq_true rfl)) d_Words_behindWord_42 ⟨Nat.le_of_ble_eq_true rfl, Nat.le_of_ble_eq_true rfl⟩) hS (fun q _ h => hFc q h) hFc (fun z_4 u t H1 locs ht hvm hw hB hz1 hk1 hS => ?_)
    have hz_4 := hw
    have hF := hF.trans (lt_e hz_4)
    obtain ⟨hP1, hD1⟩ := hB
    rw [ht] at hP1
    obtain ⟨hP, hD⟩ := va_join (wr := [(oT, .inr (5, [.ref aT, .int tl])), (aT, .inl (cB, 800, .inl tf))]) (w1 := []) hP hD [] [0, 1] rfl rfl (by decide) (by decide) hk1 hFc hP1 hD1
    generalize H1 = H at hP hS ⊢
    have hP : va_P (dC, dI) vwCl [(oT, .inr (5, [.ref aT, .int tl])), (aT, .inl (cB, 800, .inl tf))] H := hP
    have hD : va_D A [(oT, .inr (5, [.ref aT, .int tl])), (aT, .inl (cB, 800, .inl tf))] := hD
    refine lv_if_eq (tgt := 72) hx hb d_Words_behindWord_45 (by decide) (fun c_5 => ?_) (fun c_5 => ?_)
    · have hF := hF.trans (if_pos c_5)
      refine lv_iload_n hx hb d_Words_behindWord_72 rfl (lv_at hl 1 rfl) ?_
      refine lv_bipush (v := 60) hx hb d_Words_behindWord_73 (by decide) ?_
      refine lv_icmp_eq (tgt := 84) hx hb d_Words_behindWord_75 (by decide) (fun c_6 => ?_) (fun c_6 => ?_)
      · have hF := hF.trans (if_pos c_6)
        refine lv_aload_n hx hb d_Words_behindWord_84 rfl (lv_at hl 2 rfl) ?_
        refine lv_iload_n hx hb d_Words_behindWord_85 rfl (lv_at hl 0 rfl) ?_
        have hPc := hP.sub (ws' := [(oT, .inr (5, [.ref aT, .int tl])), (aT, .inl (cB, 800, .inl tf))]) [0, 1] rfl
        have hDc := hD.sub (ws' := [(oT, .inr (5, [.ref aT, .int tl])), (aT, .inl (cB, 800, .inl tf))]) [0, 1] (by decide) rfl
        have hFc := va_free (wc := [(oT, .inr (5, [.ref aT, .int tl])), (aT, .inl (cB, 800, .inl tf))]) hD hS hA [0, 1] rfl
        refine va_calli (va_runV (As := [.int (fr + 1)]) (rest := []) ⟨hx, hb, hml, hown, htb⟩ (c_Text_at l dC dI cB cI cJ oT aT _ (fr + 1) tl tf ) ⟨callB_of 1 htb (gb_all mb_231) rfl rfl rfl (htb _ mb_2) (htb _ mb_228) (by decide +kernel) ⟨Nat.le_of_ble_eq_true rfl, Nat.le_of_ble_eq_true rfl⟩, htb _ mb_229, htb _ mb_230⟩ ⟨kb_blind, va_recv hK hPc (ci := 5) (q0 := 0) rfl rfl, kb_at hPc hDc hKx⟩ rfl rfl hl.1 rfl (lv_room (Nat.le_of_ble_eq_true rfl)) d_Words_behindWord_86 ⟨Nat.le_of_ble_eq_true rfl, Nat.le_of_ble_eq_true rfl⟩) hS (fun q _ h => hFc q h) hFc (fun z_7 u t H1 locs ht hvm hw hB hz1 hk1 hS => ?_)
        have hz_7 := hw
        have hF := hF.trans (lt_e hz_7)
        obtain ⟨hP1, hD1⟩ := hB
        rw [ht] at hP1
        obtain ⟨hP, hD⟩ := va_join (wr := []) (w1 := [(oT, .inr (5, [.ref aT, .int tl])), (aT, .inl (cB, 800, .inl tf))]) hP hD [0, 1] [] rfl rfl (by decide) (by decide) hk1 hFc hP1 hD1
        generalize H1 = H at hP hS ⊢
        have hP : va_P (dC, dI) vwCl [(oT, .inr (5, [.ref aT, .int tl])), (aT, .inl (cB, 800, .inl tf))] H := hP
        have hD : va_D A [(oT, .inr (5, [.ref aT, .int tl])), (aT, .inl (cB, 800, .inl tf))] := hD
        refine lv_bipush (v := 61) hx hb d_Words_behindWord_89 (by decide) ?_
        refine lv_icmp_ne (tgt := 97) hx hb d_Words_behindWord_91 (by decide) (fun c_8 => ?_) (fun c_8 => ?_)
        · have hF := hF.trans (if_neg c_8)
          refine lv_iload_n hx hb d_Words_behindWord_97 rfl (lv_at hl 0 rfl) ?_
          have hP9 := hP.sub (ws' := [(oT, .inr (5, [.ref aT, .int tl])), (aT, .inl (cB, 800, .inl tf))]) [0, 1] rfl
          have hD9 := hD.sub (ws' := [(oT, .inr (5, [.ref aT, .int tl])), (aT, .inl (cB, 800, .inl tf))]) [0, 1] (by decide) rfl
          exact W.iret (v := fr + 1) hx hb hr (fun t ht hW => ⟨⟨fr + 1, (), rfl, by rw [hF], by rw [ht]; exact hP9, hD9⟩, hS.F ht⟩) hS.2.2 d_Words_behindWord_98
        · have hF := hF.trans (if_pos c_8)
          refine lv_iinc (v := (fr + 1) + 1) (lv' := [(3, .int ((fr + 1) + 1)), (2, .int z_1), (0, .ref oT), (1, .int fr)]) hx hb d_Words_behindWord_94 hl (k := 0) rfl (by first | rfl | decide) (by decide) rfl (fun ls hl => ?_)
          refine lv_iload_n hx hb d_Words_behindWord_97 rfl (lv_at hl 0 rfl) ?_
          have hP9 := hP.sub (ws' := [(oT, .inr (5, [.ref aT, .int tl])), (aT, .inl (cB, 800, .inl tf))]) [0, 1] rfl
          have hD9 := hD.sub (ws' := [(oT, .inr (5, [.ref aT, .int tl])), (aT, .inl (cB, 800, .inl tf))]) [0, 1] (by decide) rfl
          exact W.iret (v := (fr + 1) + 1) hx hb hr (fun t ht hW => ⟨⟨(fr + 1) + 1, (), rfl, by rw [hF], by rw [ht]; exact hP9, hD9⟩, hS.F ht⟩) hS.2.2 d_Words_behindWord_98
      · have hF := hF.trans (if_neg c_6)
        refine lv_iload_n hx hb d_Words_behindWord_78 rfl (lv_at hl 1 rfl) ?_
        refine lv_bipush (v := 62) hx hb d_Words_behindWord_79 (by decide) ?_
        refine lv_icmp_ne (tgt := 97) hx hb d_Words_behindWord_81 (by decide) (fun c_9 => ?_) (fun c_9 => ?_)
        · have hF := hF.trans (if_neg c_9)
          refine lv_iload_n hx hb d_Words_behindWord_97 rfl (lv_at hl 0 rfl) ?_
          have hP9 := hP.sub (ws' := [(oT, .inr (5, [.ref aT, .int tl])), (aT, .inl (cB, 800, .inl tf))]) [0, 1] rfl
          have hD9 := hD.sub (ws' := [(oT, .inr (5, [.ref aT, .int tl])), (aT, .inl (cB, 800, .inl tf))]) [0, 1] (by decide) rfl
          exact W.iret (v := fr + 1) hx hb hr (fun t ht hW => ⟨⟨fr + 1, (), rfl, by rw [hF], by rw [ht]; exact hP9, hD9⟩, hS.F ht⟩) hS.2.2 d_Words_behindWord_98
        · have hF := hF.trans (if_pos c_9)
          refine lv_aload_n hx hb d_Words_behindWord_84 rfl (lv_at hl 2 rfl) ?_
          refine lv_iload_n hx hb d_Words_behindWord_85 rfl (lv_at hl 0 rfl) ?_
          have hPc := hP.sub (ws' := [(oT, .inr (5, [.ref aT, .int tl])), (aT, .inl (cB, 800, .inl tf))]) [0, 1] rfl
          have hDc := hD.sub (ws' := [(oT, .inr (5, [.ref aT, .int tl])), (aT, .inl (cB, 800, .inl tf))]) [0, 1] (by decide) rfl
          have hFc := va_free (wc := [(oT, .inr (5, [.ref aT, .int tl])), (aT, .inl (cB, 800, .inl tf))]) hD hS hA [0, 1] rfl
          refine va_calli (va_runV (As := [.int (fr + 1)]) (rest := []) ⟨hx, hb, hml, hown, htb⟩ (c_Text_at l dC dI cB cI cJ oT aT _ (fr + 1) tl tf ) ⟨callB_of 1 htb (gb_all mb_231) rfl rfl rfl (htb _ mb_2) (htb _ mb_228) (by decide +kernel) ⟨Nat.le_of_ble_eq_true rfl, Nat.le_of_ble_eq_true rfl⟩, htb _ mb_229, htb _ mb_230⟩ ⟨kb_blind, va_recv hK hPc (ci := 5) (q0 := 0) rfl rfl, kb_at hPc hDc hKx⟩ rfl rfl hl.1 rfl (lv_room (Nat.le_of_ble_eq_true rfl)) d_Words_behindWord_86 ⟨Nat.le_of_ble_eq_true rfl, Nat.le_of_ble_eq_true rfl⟩) hS (fun q _ h => hFc q h) hFc (fun z_10 u t H1 locs ht hvm hw hB hz1 hk1 hS => ?_)
          have hz_10 := hw
          have hF := hF.trans (lt_e hz_10)
          obtain ⟨hP1, hD1⟩ := hB
          rw [ht] at hP1
          obtain ⟨hP, hD⟩ := va_join (wr := []) (w1 := [(oT, .inr (5, [.ref aT, .int tl])), (aT, .inl (cB, 800, .inl tf))]) hP hD [0, 1] [] rfl rfl (by decide) (by decide) hk1 hFc hP1 hD1
          generalize H1 = H at hP hS ⊢
          have hP : va_P (dC, dI) vwCl [(oT, .inr (5, [.ref aT, .int tl])), (aT, .inl (cB, 800, .inl tf))] H := hP
          have hD : va_D A [(oT, .inr (5, [.ref aT, .int tl])), (aT, .inl (cB, 800, .inl tf))] := hD
          refine lv_bipush (v := 61) hx hb d_Words_behindWord_89 (by decide) ?_
          refine lv_icmp_ne (tgt := 97) hx hb d_Words_behindWord_91 (by decide) (fun c_11 => ?_) (fun c_11 => ?_)
          · have hF := hF.trans (if_neg c_11)
            refine lv_iload_n hx hb d_Words_behindWord_97 rfl (lv_at hl 0 rfl) ?_
            have hP9 := hP.sub (ws' := [(oT, .inr (5, [.ref aT, .int tl])), (aT, .inl (cB, 800, .inl tf))]) [0, 1] rfl
            have hD9 := hD.sub (ws' := [(oT, .inr (5, [.ref aT, .int tl])), (aT, .inl (cB, 800, .inl tf))]) [0, 1] (by decide) rfl
            exact W.iret (v := fr + 1) hx hb hr (fun t ht hW => ⟨⟨fr + 1, (), rfl, by rw [hF], by rw [ht]; exact hP9, hD9⟩, hS.F ht⟩) hS.2.2 d_Words_behindWord_98
          · have hF := hF.trans (if_pos c_11)
            refine lv_iinc (v := (fr + 1) + 1) (lv' := [(3, .int ((fr + 1) + 1)), (2, .int z_1), (0, .ref oT), (1, .int fr)]) hx hb d_Words_behindWord_94 hl (k := 0) rfl (by first | rfl | decide) (by decide) rfl (fun ls hl => ?_)
            refine lv_iload_n hx hb d_Words_behindWord_97 rfl (lv_at hl 0 rfl) ?_
            have hP9 := hP.sub (ws' := [(oT, .inr (5, [.ref aT, .int tl])), (aT, .inl (cB, 800, .inl tf))]) [0, 1] rfl
            have hD9 := hD.sub (ws' := [(oT, .inr (5, [.ref aT, .int tl])), (aT, .inl (cB, 800, .inl tf))]) [0, 1] (by decide) rfl
            exact W.iret (v := (fr + 1) + 1) hx hb hr (fun t ht hW => ⟨⟨(fr + 1) + 1, (), rfl, by rw [hF], by rw [ht]; exact hP9, hD9⟩, hS.F ht⟩) hS.2.2 d_Words_behindWord_98
    · have hF := hF.trans (if_neg c_5)
      exact lp48 801 (fr + 1) (oi_g h0 h1) (oi_f (oi_g h0 h1) (by decide)) hF _ _ _ (hP.sub [0, 1] rfl) (hD.sub [0, 1] (by decide) rfl) hS (lv_sub hl [0, 2, 3] rfl)
  · have hF := hF.trans (if_neg c_3)
    exact lp17 801 (fr + 1) (oi_g h0 h1) (oi_f (oi_g h0 h1) (by decide)) hF _ _ _ (hP.sub [0, 1] rfl) (hD.sub [0, 1] (by decide) rfl) hS (lv_sub hl [0, 2, 3] rfl)
def f_Words_kindOf (fr : Int32) (bh : Int32) (tl : Int32) (tf : (Nat → Int32)) : Int32 := (lt_ (f_Text_at fr tl tf) fun z_1 => (if z_1 = 0 then 0 else (lt_ (f_PR_isDigit z_1) fun z_3 => (if z_3 = 0 then (lt_ (f_PR_isLetter z_1) fun z_5 => (if z_5 = 0 then (if (bh - fr) = 2 then (if z_1 = 60 then 4 else 5) else z_1) else (if 8 < (bh - fr) then 1 else 3))) else (if 9 < (bh - fr) then 1 else 2)))))
abbrev q_Words_kindOf (dC : Nat → ClassId) (dI : Nat → Nat → Nat) (cB cI cJ : ClassId) (oT aT : Nat) (fr : Int32) (bh : Int32) (tl : Int32) (tf : (Nat → Int32)) (A : Nat → Prop) : Array Value → State → Outcome → State → Prop := va_Qi (fun (r : Int32) (u : Unit) => r = f_Words_kindOf fr bh tl tf) (fun u t => va_P (dC, dI) vwCl [(oT, .inr (5, [.ref aT, .int tl])), (aT, .inl (cB, 800, .inl tf))] t.heap ∧ va_D A [(oT, .inr (5, [.ref aT, .int tl])), (aT, .inl (cB, 800, .inl tf))]) A
set_option maxHeartbeats 4000000 in
set_option maxRecDepth 100000 in
theorem c_Words_kindOf (l : Launch) (dC : Nat → ClassId) (dI : Nat → Nat → Nat) (cB cI cJ : ClassId) (oT aT : Nat) (sz : Nat) (fr : Int32) (bh : Int32) (tl : Int32) (tf : (Nat → Int32)) : Met l y_Words_kindOf (cw_Words_kindOf :: bgw) { frames := 1, cells := 0, slots := 0, locals := 21 } (va_Pc [.ref oT, .int fr, .int bh] (kb_B dC dI cB cI cJ [(oT, .inr (5, [.ref aT, .int tl])), (aT, .inl (cB, 800, .inl tf))] sz)) (q_Words_kindOf dC dI cB cI cJ oT aT fr bh tl tf (va_A [(oT, .inr (5, [.ref aT, .int tl])), (aT, .inl (cB, 800, .inl tf))] sz)) 0 0 (va_A [(oT, .inr (5, [.ref aT, .int tl])), (aT, .inl (cB, 800, .inl tf))] sz) := by
  refine Met.ofW (cc := prog_8_method_10_code) (maxL := 4) (ret := (some .int)) (by decide) rfl ?_
  intro p e s m args below meth c s₁ B hml hv
  obtain ⟨rfl, hsz, hP, hKx, hD0⟩ := hv
  have hx := B.exec
  have hb := B.bytes
  have hr := B.returns
  have hts := atoms_spec (ws := (cw_Words_kindOf :: bgw)) B.pre
  have hown : s.vm.findClass "PermitRules$Words" = some m.cls := findClass_of_methodNamed B.named
  have hlocks := B.notSynchronized
  have htb := fun (w : Cond) (h : w ∈ bgw) => hts w (List.mem_cons_of_mem _ h)
  have hK := hKx.1
  subst hsz
  have hD := hD0.self (sz := s.heap.size)
  generalize hAe : va_A [(oT, .inr (5, [.ref aT, .int tl])), (aT, .inl (cB, 800, .inl tf))] s.heap.size = A at hD ⊢
  have hA : ∀ q : Nat, s.heap.size ≤ q → A q := fun q h => by rw [← hAe]; exact Or.inr h
  have hS : va_S A s.heap s.heap [] := va_S.rf
  have hl := lv_entry ([.ref oT, .int fr, .int bh]) (n := 4) (Nat.le_of_ble_eq_true rfl)
  rw [lg_entry_eq]
  generalize (lg_sl ([.ref oT, .int fr, .int bh]) ++ List.replicate (4 - (lg_sl ([.ref oT, .int fr, .int bh])).length) Slot.unset).toArray = ls at hl ⊢
  have hl : lv_has ls 4 [(0, .ref oT), (1, .int fr), (2, .int bh)] := hl
  have hP : va_P (dC, dI) vwCl [(oT, .inr (5, [.ref aT, .int tl])), (aT, .inl (cB, 800, .inl tf))] s.heap := hP
  have hF : f_Words_kindOf fr bh tl tf = (lt_ (f_Text_at fr tl tf) fun z_1 => (if z_1 = 0 then 0 else (lt_ (f_PR_isDigit z_1) fun z_3 => (if z_3 = 0 then (lt_ (f_PR_isLetter z_1) fun z_5 => (if z_5 = 0 then (if (bh - fr) = 2 then (if z_1 = 60 then 4 else 5) else z_1) else (if 8 < (bh - fr) then 1 else 3))) else (if 9 < (bh - fr) then 1 else 2))))) := rfl
  refine lv_aload_n hx hb d_Words_kindOf_0 rfl (lv_at hl 0 rfl) ?_
  refine lv_iload_n hx hb d_Words_kindOf_1 rfl (lv_at hl 1 rfl) ?_
  have hPc := hP.sub (ws' := [(oT, .inr (5, [.ref aT, .int tl])), (aT, .inl (cB, 800, .inl tf))]) [0, 1] rfl
  have hDc := hD.sub (ws' := [(oT, .inr (5, [.ref aT, .int tl])), (aT, .inl (cB, 800, .inl tf))]) [0, 1] (by decide) rfl
  have hFc := va_free (wc := [(oT, .inr (5, [.ref aT, .int tl])), (aT, .inl (cB, 800, .inl tf))]) hD hS hA [0, 1] rfl
  refine va_calli (va_runV (As := [.int fr]) (rest := []) ⟨hx, hb, hml, hown, htb⟩ (c_Text_at l dC dI cB cI cJ oT aT _ fr tl tf ) ⟨callB_of 1 htb (gb_all mb_231) rfl rfl rfl (htb _ mb_2) (htb _ mb_228) (by decide +kernel) ⟨Nat.le_of_ble_eq_true rfl, Nat.le_of_ble_eq_true rfl⟩, htb _ mb_229, htb _ mb_230⟩ ⟨kb_blind, va_recv hK hPc (ci := 5) (q0 := 0) rfl rfl, kb_at hPc hDc hKx⟩ rfl rfl hl.1 rfl (lv_room (Nat.le_of_ble_eq_true rfl)) d_Words_kindOf_2 ⟨Nat.le_of_ble_eq_true rfl, Nat.le_of_ble_eq_true rfl⟩) hS (fun q _ h => hFc q h) hFc (fun z_1 u t H1 locs ht hvm hw hB hz1 hk1 hS => ?_)
  have hz_1 := hw
  have hF := hF.trans (lt_e hz_1)
  obtain ⟨hP1, hD1⟩ := hB
  rw [ht] at hP1
  obtain ⟨hP, hD⟩ := va_join (wr := []) (w1 := [(oT, .inr (5, [.ref aT, .int tl])), (aT, .inl (cB, 800, .inl tf))]) hP hD [0, 1] [] rfl rfl (by decide) (by decide) hk1 hFc hP1 hD1
  generalize H1 = H at hP hS ⊢
  have hP : va_P (dC, dI) vwCl [(oT, .inr (5, [.ref aT, .int tl])), (aT, .inl (cB, 800, .inl tf))] H := hP
  have hD : va_D A [(oT, .inr (5, [.ref aT, .int tl])), (aT, .inl (cB, 800, .inl tf))] := hD
  refine lv_istore_n (lv' := [(3, .int z_1), (0, .ref oT), (1, .int fr), (2, .int bh)]) hx hb d_Words_kindOf_5 rfl hl (by decide) rfl (fun ls hl => ?_)
  refine lv_iload_n hx hb d_Words_kindOf_6 rfl (lv_at hl 0 rfl) ?_
  refine lv_if_ne (tgt := 12) hx hb d_Words_kindOf_7 (by decide) (fun c_2 => ?_) (fun c_2 => ?_)
  · have hF := hF.trans (if_neg c_2)
    refine lv_iload_n hx hb d_Words_kindOf_12 rfl (lv_at hl 0 rfl) ?_
    have hPc := hP.sub (ws' := []) [] rfl
    have hDc := hD.sub (ws' := []) [] (by decide) rfl
    have hFc := va_free (wc := []) hD hS hA [] rfl
    refine va_calli (va_runSN (As := [.int z_1]) (rest := []) ⟨hx, hb, hml, hown, htb⟩ (c_PR_isDigit l dC dI cB cI cJ  _ z_1 ) ⟨va_cnB 1 htb (gb_all mb_237) rfl rfl rfl (hKx.2.2 _ nn_7) (htb _ mb_1) (by decide +kernel) ⟨Nat.le_of_ble_eq_true rfl, Nat.le_of_ble_eq_true rfl⟩, htb _ mb_236, trivial⟩ ⟨kb_blind, kb_at hPc hDc hKx⟩ rfl rfl hl.1 rfl (lv_room (Nat.le_of_ble_eq_true rfl)) d_Words_kindOf_13 ⟨Nat.le_of_ble_eq_true rfl, Nat.le_of_ble_eq_true rfl⟩) hS (fun q _ h => hFc q h) hFc (fun z_3 u t H1 locs ht hvm hw hB hz1 hk1 hS => ?_)
    have hz_3 := hw
    have hF := hF.trans (lt_e hz_3)
    obtain ⟨hP1, hD1⟩ := hB
    rw [ht] at hP1
    obtain ⟨hP, hD⟩ := va_join (wr := [(oT, .inr (5, [.ref aT, .int tl])), (aT, .inl (cB, 800, .inl tf))]) (w1 := []) hP hD [] [0, 1] rfl rfl (by decide) (by decide) hk1 hFc hP1 hD1
    generalize H1 = H at hP hS ⊢
    have hP : va_P (dC, dI) vwCl [(oT, .inr (5, [.ref aT, .int tl])), (aT, .inl (cB, 800, .inl tf))] H := hP
    have hD : va_D A [(oT, .inr (5, [.ref aT, .int tl])), (aT, .inl (cB, 800, .inl tf))] := hD
    refine lv_if_eq (tgt := 33) hx hb d_Words_kindOf_16 (by decide) (fun c_4 => ?_) (fun c_4 => ?_)
    · have hF := hF.trans (if_pos c_4)
      refine lv_iload_n hx hb d_Words_kindOf_33 rfl (lv_at hl 0 rfl) ?_
      have hPc := hP.sub (ws' := []) [] rfl
      have hDc := hD.sub (ws' := []) [] (by decide) rfl
      have hFc := va_free (wc := []) hD hS hA [] rfl
      refine va_calli (va_runSN (As := [.int z_1]) (rest := []) ⟨hx, hb, hml, hown, htb⟩ (c_PR_isLetter l dC dI cB cI cJ  _ z_1 ) ⟨va_cnB 1 htb (gb_all mb_240) rfl rfl rfl (hKx.2.2 _ nn_8) (htb _ mb_1) (by decide +kernel) ⟨Nat.le_of_ble_eq_true rfl, Nat.le_of_ble_eq_true rfl⟩, htb _ mb_239, trivial⟩ ⟨kb_blind, kb_at hPc hDc hKx⟩ rfl rfl hl.1 rfl (lv_room (Nat.le_of_ble_eq_true rfl)) d_Words_kindOf_34 ⟨Nat.le_of_ble_eq_true rfl, Nat.le_of_ble_eq_true rfl⟩) hS (fun q _ h => hFc q h) hFc (fun z_5 u t H1 locs ht hvm hw hB hz1 hk1 hS => ?_)
      have hz_5 := hw
      have hF := hF.trans (lt_e hz_5)
      obtain ⟨hP1, hD1⟩ := hB
      rw [ht] at hP1
      obtain ⟨hP, hD⟩ := va_join (wr := [(oT, .inr (5, [.ref aT, .int tl])), (aT, .inl (cB, 800, .inl tf))]) (w1 := []) hP hD [] [0, 1] rfl rfl (by decide) (by decide) hk1 hFc hP1 hD1
      generalize H1 = H at hP hS ⊢
      have hP : va_P (dC, dI) vwCl [(oT, .inr (5, [.ref aT, .int tl])), (aT, .inl (cB, 800, .inl tf))] H := hP
      have hD : va_D A [(oT, .inr (5, [.ref aT, .int tl])), (aT, .inl (cB, 800, .inl tf))] := hD
      refine lv_if_eq (tgt := 54) hx hb d_Words_kindOf_37 (by decide) (fun c_6 => ?_) (fun c_6 => ?_)
      · have hF := hF.trans (if_pos c_6)
        refine lv_iload_n hx hb d_Words_kindOf_54 rfl (lv_at hl 3 rfl) ?_
        refine lv_iload_n hx hb d_Words_kindOf_55 rfl (lv_at hl 2 rfl) ?_
        refine lv_isub hx hb d_Words_kindOf_56 ?_
        refine lv_iconst (v := 2) hx hb d_Words_kindOf_57 (by decide) ?_
        refine lv_icmp_ne (tgt := 73) hx hb d_Words_kindOf_58 (by decide) (fun c_7 => ?_) (fun c_7 => ?_)
        · have hF := hF.trans (if_neg c_7)
          refine lv_iload_n hx hb d_Words_kindOf_73 rfl (lv_at hl 0 rfl) ?_
          have hP9 := hP.sub (ws' := [(oT, .inr (5, [.ref aT, .int tl])), (aT, .inl (cB, 800, .inl tf))]) [0, 1] rfl
          have hD9 := hD.sub (ws' := [(oT, .inr (5, [.ref aT, .int tl])), (aT, .inl (cB, 800, .inl tf))]) [0, 1] (by decide) rfl
          exact W.iret (v := z_1) hx hb hr (fun t ht hW => ⟨⟨z_1, (), rfl, by rw [hF], by rw [ht]; exact hP9, hD9⟩, hS.F ht⟩) hS.2.2 d_Words_kindOf_74
        · have hF := hF.trans (if_pos c_7)
          refine lv_iload_n hx hb d_Words_kindOf_61 rfl (lv_at hl 0 rfl) ?_
          refine lv_bipush (v := 60) hx hb d_Words_kindOf_62 (by decide) ?_
          refine lv_icmp_ne (tgt := 71) hx hb d_Words_kindOf_64 (by decide) (fun c_8 => ?_) (fun c_8 => ?_)
          · have hF := hF.trans (if_neg c_8)
            refine lv_iconst (v := 5) hx hb d_Words_kindOf_71 (by decide) ?_
            have hP9 := hP.sub (ws' := [(oT, .inr (5, [.ref aT, .int tl])), (aT, .inl (cB, 800, .inl tf))]) [0, 1] rfl
            have hD9 := hD.sub (ws' := [(oT, .inr (5, [.ref aT, .int tl])), (aT, .inl (cB, 800, .inl tf))]) [0, 1] (by decide) rfl
            exact W.iret (v := (5 : Int32)) hx hb hr (fun t ht hW => ⟨⟨(5 : Int32), (), rfl, by rw [hF], by rw [ht]; exact hP9, hD9⟩, hS.F ht⟩) hS.2.2 d_Words_kindOf_72
          · have hF := hF.trans (if_pos c_8)
            refine lv_iconst (v := 4) hx hb d_Words_kindOf_67 (by decide) ?_
            refine lv_goto (tgt := 72) hx hb d_Words_kindOf_68 (by decide) ?_
            have hP9 := hP.sub (ws' := [(oT, .inr (5, [.ref aT, .int tl])), (aT, .inl (cB, 800, .inl tf))]) [0, 1] rfl
            have hD9 := hD.sub (ws' := [(oT, .inr (5, [.ref aT, .int tl])), (aT, .inl (cB, 800, .inl tf))]) [0, 1] (by decide) rfl
            exact W.iret (v := (4 : Int32)) hx hb hr (fun t ht hW => ⟨⟨(4 : Int32), (), rfl, by rw [hF], by rw [ht]; exact hP9, hD9⟩, hS.F ht⟩) hS.2.2 d_Words_kindOf_72
      · have hF := hF.trans (if_neg c_6)
        refine lv_iload_n hx hb d_Words_kindOf_40 rfl (lv_at hl 3 rfl) ?_
        refine lv_iload_n hx hb d_Words_kindOf_41 rfl (lv_at hl 2 rfl) ?_
        refine lv_isub hx hb d_Words_kindOf_42 ?_
        refine lv_bipush (v := 8) hx hb d_Words_kindOf_43 (by decide) ?_
        refine lv_icmp_gt (tgt := 52) hx hb d_Words_kindOf_45 (by decide) (fun c_9 => ?_) (fun c_9 => ?_)
        · have hF := hF.trans (if_pos c_9)
          refine lv_iconst (v := 1) hx hb d_Words_kindOf_52 (by decide) ?_
          have hP9 := hP.sub (ws' := [(oT, .inr (5, [.ref aT, .int tl])), (aT, .inl (cB, 800, .inl tf))]) [0, 1] rfl
          have hD9 := hD.sub (ws' := [(oT, .inr (5, [.ref aT, .int tl])), (aT, .inl (cB, 800, .inl tf))]) [0, 1] (by decide) rfl
          exact W.iret (v := (1 : Int32)) hx hb hr (fun t ht hW => ⟨⟨(1 : Int32), (), rfl, by rw [hF], by rw [ht]; exact hP9, hD9⟩, hS.F ht⟩) hS.2.2 d_Words_kindOf_53
        · have hF := hF.trans (if_neg c_9)
          refine lv_iconst (v := 3) hx hb d_Words_kindOf_48 (by decide) ?_
          refine lv_goto (tgt := 53) hx hb d_Words_kindOf_49 (by decide) ?_
          have hP9 := hP.sub (ws' := [(oT, .inr (5, [.ref aT, .int tl])), (aT, .inl (cB, 800, .inl tf))]) [0, 1] rfl
          have hD9 := hD.sub (ws' := [(oT, .inr (5, [.ref aT, .int tl])), (aT, .inl (cB, 800, .inl tf))]) [0, 1] (by decide) rfl
          exact W.iret (v := (3 : Int32)) hx hb hr (fun t ht hW => ⟨⟨(3 : Int32), (), rfl, by rw [hF], by rw [ht]; exact hP9, hD9⟩, hS.F ht⟩) hS.2.2 d_Words_kindOf_53
    · have hF := hF.trans (if_neg c_4)
      refine lv_iload_n hx hb d_Words_kindOf_19 rfl (lv_at hl 3 rfl) ?_
      refine lv_iload_n hx hb d_Words_kindOf_20 rfl (lv_at hl 2 rfl) ?_
      refine lv_isub hx hb d_Words_kindOf_21 ?_
      refine lv_bipush (v := 9) hx hb d_Words_kindOf_22 (by decide) ?_
      refine lv_icmp_gt (tgt := 31) hx hb d_Words_kindOf_24 (by decide) (fun c_10 => ?_) (fun c_10 => ?_)
      · have hF := hF.trans (if_pos c_10)
        refine lv_iconst (v := 1) hx hb d_Words_kindOf_31 (by decide) ?_
        have hP9 := hP.sub (ws' := [(oT, .inr (5, [.ref aT, .int tl])), (aT, .inl (cB, 800, .inl tf))]) [0, 1] rfl
        have hD9 := hD.sub (ws' := [(oT, .inr (5, [.ref aT, .int tl])), (aT, .inl (cB, 800, .inl tf))]) [0, 1] (by decide) rfl
        exact W.iret (v := (1 : Int32)) hx hb hr (fun t ht hW => ⟨⟨(1 : Int32), (), rfl, by rw [hF], by rw [ht]; exact hP9, hD9⟩, hS.F ht⟩) hS.2.2 d_Words_kindOf_32
      · have hF := hF.trans (if_neg c_10)
        refine lv_iconst (v := 2) hx hb d_Words_kindOf_27 (by decide) ?_
        refine lv_goto (tgt := 32) hx hb d_Words_kindOf_28 (by decide) ?_
        have hP9 := hP.sub (ws' := [(oT, .inr (5, [.ref aT, .int tl])), (aT, .inl (cB, 800, .inl tf))]) [0, 1] rfl
        have hD9 := hD.sub (ws' := [(oT, .inr (5, [.ref aT, .int tl])), (aT, .inl (cB, 800, .inl tf))]) [0, 1] (by decide) rfl
        exact W.iret (v := (2 : Int32)) hx hb hr (fun t ht hW => ⟨⟨(2 : Int32), (), rfl, by rw [hF], by rw [ht]; exact hP9, hD9⟩, hS.F ht⟩) hS.2.2 d_Words_kindOf_32
  · have hF := hF.trans (if_pos c_2)
    refine lv_iconst (v := 0) hx hb d_Words_kindOf_10 (by decide) ?_
    have hP9 := hP.sub (ws' := [(oT, .inr (5, [.ref aT, .int tl])), (aT, .inl (cB, 800, .inl tf))]) [0, 1] rfl
    have hD9 := hD.sub (ws' := [(oT, .inr (5, [.ref aT, .int tl])), (aT, .inl (cB, 800, .inl tf))]) [0, 1] (by decide) rfl
    exact W.iret (v := (0 : Int32)) hx hb hr (fun t ht hW => ⟨⟨(0 : Int32), (), rfl, by rw [hF], by rw [ht]; exact hP9, hD9⟩, hS.F ht⟩) hS.2.2 d_Words_kindOf_11
def f_Words_worthOf_L53 (fr : Int32) (bh : Int32) (kd : Int32) (tl : Int32) (tf : (Nat → Int32)) : Nat → Int32 → Int64 → Int64
  | 0, _, _ => 0
  | n + 1, i, wo => (if bh ≤ i then wo else (lt_ (f_Text_at i tl tf) fun z_4 => (f_Words_worthOf_L53 fr bh kd tl tf n (i + 1) ((wo <<< ((8 : Int32).toInt64 &&& 63)) ||| z_4.toInt64))))
theorem f_Words_worthOf_L53_s (fr : Int32) (bh : Int32) (kd : Int32) (tl : Int32) (tf : (Nat → Int32)) (n : Nat) (i : Int32) (wo : Int64) : f_Words_worthOf_L53 fr bh kd tl tf (n + 1) i wo = (if bh ≤ i then wo else (lt_ (f_Text_at i tl tf) fun z_4 => (f_Words_worthOf_L53 fr bh kd tl tf n (i + 1) ((wo <<< ((8 : Int32).toInt64 &&& 63)) ||| z_4.toInt64)))) := rfl
def f_Words_worthOf_L11 (fr : Int32) (bh : Int32) (kd : Int32) (tl : Int32) (tf : (Nat → Int32)) : Nat → Int32 → Int64 → Int64
  | 0, _, _ => 0
  | n + 1, i, wo => (if bh ≤ i then wo else (lt_ (f_Text_at i tl tf) fun z_6 => (f_Words_worthOf_L11 fr bh kd tl tf n (i + 1) ((wo * 10) + ((z_6 - 48).toInt64)))))
theorem f_Words_worthOf_L11_s (fr : Int32) (bh : Int32) (kd : Int32) (tl : Int32) (tf : (Nat → Int32)) (n : Nat) (i : Int32) (wo : Int64) : f_Words_worthOf_L11 fr bh kd tl tf (n + 1) i wo = (if bh ≤ i then wo else (lt_ (f_Text_at i tl tf) fun z_6 => (f_Words_worthOf_L11 fr bh kd tl tf n (i + 1) ((wo * 10) + ((z_6 - 48).toInt64))))) := rfl
def f_Words_worthOf (fr : Int32) (bh : Int32) (kd : Int32) (tl : Int32) (tf : (Nat → Int32)) : Int64 := (if kd = 2 then (f_Words_worthOf_L11 fr bh kd tl tf ((bh.toInt - fr.toInt).toNat + 1) fr 0) else (if kd = 3 then (f_Words_worthOf_L53 fr bh kd tl tf ((bh.toInt - fr.toInt).toNat + 1) fr 0) else 0))
abbrev q_Words_worthOf (dC : Nat → ClassId) (dI : Nat → Nat → Nat) (cB cI cJ : ClassId) (oT aT : Nat) (fr : Int32) (bh : Int32) (kd : Int32) (tl : Int32) (tf : (Nat → Int32)) (A : Nat → Prop) : Array Value → State → Outcome → State → Prop := va_Ql (fun (r : Int64) (u : Unit) => r = f_Words_worthOf fr bh kd tl tf) (fun u t => va_P (dC, dI) vwCl [(oT, .inr (5, [.ref aT, .int tl])), (aT, .inl (cB, 800, .inl tf))] t.heap ∧ va_D A [(oT, .inr (5, [.ref aT, .int tl])), (aT, .inl (cB, 800, .inl tf))]) A
set_option maxHeartbeats 4000000 in
set_option maxRecDepth 100000 in
theorem c_Words_worthOf (l : Launch) (dC : Nat → ClassId) (dI : Nat → Nat → Nat) (cB cI cJ : ClassId) (oT aT : Nat) (sz : Nat) (fr : Int32) (bh : Int32) (kd : Int32) (tl : Int32) (tf : (Nat → Int32)) : Met l y_Words_worthOf (cw_Words_worthOf :: bgw) { frames := 1, cells := 0, slots := 0, locals := 21 } (va_Pc [.ref oT, .int fr, .int bh, .int kd] (kb_B dC dI cB cI cJ [(oT, .inr (5, [.ref aT, .int tl])), (aT, .inl (cB, 800, .inl tf))] sz)) (q_Words_worthOf dC dI cB cI cJ oT aT fr bh kd tl tf (va_A [(oT, .inr (5, [.ref aT, .int tl])), (aT, .inl (cB, 800, .inl tf))] sz)) 0 0 (va_A [(oT, .inr (5, [.ref aT, .int tl])), (aT, .inl (cB, 800, .inl tf))] sz) := by
  refine Met.ofW (cc := prog_8_method_11_code) (maxL := 7) (ret := (some .long)) (by decide) rfl ?_
  intro p e s m args below meth c s₁ B hml hv
  obtain ⟨rfl, hsz, hP, hKx, hD0⟩ := hv
  have hx := B.exec
  have hb := B.bytes
  have hr := B.returns
  have hts := atoms_spec (ws := (cw_Words_worthOf :: bgw)) B.pre
  have hown : s.vm.findClass "PermitRules$Words" = some m.cls := findClass_of_methodNamed B.named
  have hlocks := B.notSynchronized
  have htb := fun (w : Cond) (h : w ∈ bgw) => hts w (List.mem_cons_of_mem _ h)
  have hK := hKx.1
  subst hsz
  have hD := hD0.self (sz := s.heap.size)
  generalize hAe : va_A [(oT, .inr (5, [.ref aT, .int tl])), (aT, .inl (cB, 800, .inl tf))] s.heap.size = A at hD ⊢
  have hA : ∀ q : Nat, s.heap.size ≤ q → A q := fun q h => by rw [← hAe]; exact Or.inr h
  have hS : va_S A s.heap s.heap [] := va_S.rf
  have hl := lv_entry ([.ref oT, .int fr, .int bh, .int kd]) (n := 7) (Nat.le_of_ble_eq_true rfl)
  rw [lg_entry_eq]
  generalize (lg_sl ([.ref oT, .int fr, .int bh, .int kd]) ++ List.replicate (7 - (lg_sl ([.ref oT, .int fr, .int bh, .int kd])).length) Slot.unset).toArray = ls at hl ⊢
  have hl : lv_has ls 7 [(0, .ref oT), (1, .int fr), (2, .int bh), (3, .int kd)] := hl
  have hP : va_P (dC, dI) vwCl [(oT, .inr (5, [.ref aT, .int tl])), (aT, .inl (cB, 800, .inl tf))] s.heap := hP
  have hF : f_Words_worthOf fr bh kd tl tf = (if kd = 2 then (f_Words_worthOf_L11 fr bh kd tl tf ((bh.toInt - fr.toInt).toNat + 1) fr 0) else (if kd = 3 then (f_Words_worthOf_L53 fr bh kd tl tf ((bh.toInt - fr.toInt).toNat + 1) fr 0) else 0)) := rfl
  have lp53 : ∀ (n : Nat) (i : Int32) (wo : Int64), (bh.toInt - i.toInt).toNat < n → f_Words_worthOf fr bh kd tl tf = f_Words_worthOf_L53 fr bh kd tl tf n i wo → ∀ (H : Heap) (locs : List Loc) (ls : Array Slot), va_P (dC, dI) vwCl [(oT, .inr (5, [.ref aT, .int tl])), (aT, .inl (cB, 800, .inl tf))] H → va_D A [(oT, .inr (5, [.ref aT, .int tl])), (aT, .inl (cB, 800, .inl tf))] → va_S A s.heap H locs → lv_has ls 7 [(6, .int i), (4, .long wo), (0, .ref oT), (1, .int fr), (2, .int bh), (3, .int kd)] → W p l e (headSpec (cw_Words_worthOf :: bgw) { frames := 1, cells := 0, slots := 0, locals := 21 }).room s m ([.ref oT, .int fr, .int bh, .int kd] : List Value).toArray below meth c H locs 0 0 (MQ below (q_Words_worthOf dC dI cB cI cJ oT aT fr bh kd tl tf A) ([.ref oT, .int fr, .int bh, .int kd] : List Value).toArray s 0 0 A) (F0 m 53 ls []) := by
    intro n
    induction n with
    | zero => intro i wo  hn; exact absurd hn (Nat.not_lt_zero _)
    | succ n ih =>
      intro i wo  hn hF H locs ls hP hD hS hl
      have hF := hF.trans (f_Words_worthOf_L53_s fr bh kd tl tf n i wo)
      refine lv_iload hx hb d_Words_worthOf_53 (lv_at hl 0 rfl) ?_
      refine lv_iload_n hx hb d_Words_worthOf_55 rfl (lv_at hl 4 rfl) ?_
      refine lv_icmp_ge (tgt := 80) hx hb d_Words_worthOf_56 (by decide) (fun c_3 => ?_) (fun c_3 => ?_)
      · have hF := hF.trans (if_pos c_3)
        refine lv_lload hx hb d_Words_worthOf_80 (lv_at hl 1 rfl) ?_
        have hP9 := hP.sub (ws' := [(oT, .inr (5, [.ref aT, .int tl])), (aT, .inl (cB, 800, .inl tf))]) [0, 1] rfl
        have hD9 := hD.sub (ws' := [(oT, .inr (5, [.ref aT, .int tl])), (aT, .inl (cB, 800, .inl tf))]) [0, 1] (by decide) rfl
        exact W.lret (v := wo) hx hb hr (fun t ht hW => ⟨⟨wo, (), rfl, by rw [hF], by rw [ht]; exact hP9, hD9⟩, hS.F ht⟩) hS.2.2 d_Words_worthOf_82
      · have hF := hF.trans (if_neg c_3)
        refine lv_lload hx hb d_Words_worthOf_59 (lv_at hl 1 rfl) ?_
        refine lv_bipush (v := 8) hx hb d_Words_worthOf_61 (by decide) ?_
        refine lv_lshl (v := wo <<< ((8 : Int32).toInt64 &&& 63)) hx hb d_Words_worthOf_63 rfl ?_
        refine lv_aload_n hx hb d_Words_worthOf_64 rfl (lv_at hl 2 rfl) ?_
        refine lv_iload hx hb d_Words_worthOf_65 (lv_at hl 0 rfl) ?_
        have hPc := hP.sub (ws' := [(oT, .inr (5, [.ref aT, .int tl])), (aT, .inl (cB, 800, .inl tf))]) [0, 1] rfl
        have hDc := hD.sub (ws' := [(oT, .inr (5, [.ref aT, .int tl])), (aT, .inl (cB, 800, .inl tf))]) [0, 1] (by decide) rfl
        have hFc := va_free (wc := [(oT, .inr (5, [.ref aT, .int tl])), (aT, .inl (cB, 800, .inl tf))]) hD hS hA [0, 1] rfl
        refine va_calli (va_runV (As := [.int i]) (rest := [.long (wo <<< ((8 : Int32).toInt64 &&& 63))]) ⟨hx, hb, hml, hown, htb⟩ (c_Text_at l dC dI cB cI cJ oT aT _ i tl tf ) ⟨callB_of 1 htb (gb_all mb_231) rfl rfl rfl (htb _ mb_2) (htb _ mb_228) (by decide +kernel) ⟨Nat.le_of_ble_eq_true rfl, Nat.le_of_ble_eq_true rfl⟩, htb _ mb_229, htb _ mb_230⟩ ⟨kb_blind, va_recv hK hPc (ci := 5) (q0 := 0) rfl rfl, kb_at hPc hDc hKx⟩ rfl rfl hl.1 rfl (lv_room (Nat.le_of_ble_eq_true rfl)) d_Words_worthOf_67 ⟨Nat.le_of_ble_eq_true rfl, Nat.le_of_ble_eq_true rfl⟩) hS (fun q _ h => hFc q h) hFc (fun z_4 u t H1 locs ht hvm hw hB hz1 hk1 hS => ?_)
        have hz_4 := hw
        have hF := hF.trans (lt_e hz_4)
        obtain ⟨hP1, hD1⟩ := hB
        rw [ht] at hP1
        obtain ⟨hP, hD⟩ := va_join (wr := []) (w1 := [(oT, .inr (5, [.ref aT, .int tl])), (aT, .inl (cB, 800, .inl tf))]) hP hD [0, 1] [] rfl rfl (by decide) (by decide) hk1 hFc hP1 hD1
        generalize H1 = H at hP hS ⊢
        have hP : va_P (dC, dI) vwCl [(oT, .inr (5, [.ref aT, .int tl])), (aT, .inl (cB, 800, .inl tf))] H := hP
        have hD : va_D A [(oT, .inr (5, [.ref aT, .int tl])), (aT, .inl (cB, 800, .inl tf))] := hD
        refine lv_i2l (v := z_4.toInt64) hx hb d_Words_worthOf_70 rfl ?_
        refine lv_lor hx hb d_Words_worthOf_71 ?_
        refine lv_lstore (lv' := [(4, .long ((wo <<< ((8 : Int32).toInt64 &&& 63)) ||| z_4.toInt64)), (6, .int i), (0, .ref oT), (1, .int fr), (2, .int bh), (3, .int kd)]) hx hb d_Words_worthOf_72 hl (by decide) rfl (fun ls hl => ?_)
        refine lv_iinc (v := i + 1) (lv' := [(6, .int (i + 1)), (4, .long ((wo <<< ((8 : Int32).toInt64 &&& 63)) ||| z_4.toInt64)), (0, .ref oT), (1, .int fr), (2, .int bh), (3, .int kd)]) hx hb d_Words_worthOf_74 hl (k := 1) rfl (by first | rfl | decide) (by decide) rfl (fun ls hl => ?_)
        refine lv_goto (tgt := 53) hx hb d_Words_worthOf_77 (by decide) ?_
        exact ih (i + 1) ((wo <<< ((8 : Int32).toInt64 &&& 63)) ||| z_4.toInt64) (oi_u c_3 hn) hF _ _ _ (hP.sub [0, 1] rfl) (hD.sub [0, 1] (by decide) rfl) hS (lv_sub hl [0, 1, 2, 3, 4, 5] rfl)
  have lp11 : ∀ (n : Nat) (i : Int32) (wo : Int64), (bh.toInt - i.toInt).toNat < n → f_Words_worthOf fr bh kd tl tf = f_Words_worthOf_L11 fr bh kd tl tf n i wo → ∀ (H : Heap) (locs : List Loc) (ls : Array Slot), va_P (dC, dI) vwCl [(oT, .inr (5, [.ref aT, .int tl])), (aT, .inl (cB, 800, .inl tf))] H → va_D A [(oT, .inr (5, [.ref aT, .int tl])), (aT, .inl (cB, 800, .inl tf))] → va_S A s.heap H locs → lv_has ls 7 [(6, .int i), (4, .long wo), (0, .ref oT), (1, .int fr), (2, .int bh), (3, .int kd)] → W p l e (headSpec (cw_Words_worthOf :: bgw) { frames := 1, cells := 0, slots := 0, locals := 21 }).room s m ([.ref oT, .int fr, .int bh, .int kd] : List Value).toArray below meth c H locs 0 0 (MQ below (q_Words_worthOf dC dI cB cI cJ oT aT fr bh kd tl tf A) ([.ref oT, .int fr, .int bh, .int kd] : List Value).toArray s 0 0 A) (F0 m 11 ls []) := by
    intro n
    induction n with
    | zero => intro i wo  hn; exact absurd hn (Nat.not_lt_zero _)
    | succ n ih =>
      intro i wo  hn hF H locs ls hP hD hS hl
      have hF := hF.trans (f_Words_worthOf_L11_s fr bh kd tl tf n i wo)
      refine lv_iload hx hb d_Words_worthOf_11 (lv_at hl 0 rfl) ?_
      refine lv_iload_n hx hb d_Words_worthOf_13 rfl (lv_at hl 4 rfl) ?_
      refine lv_icmp_ge (tgt := 42) hx hb d_Words_worthOf_14 (by decide) (fun c_5 => ?_) (fun c_5 => ?_)
      · have hF := hF.trans (if_pos c_5)
        refine lv_goto (tgt := 80) hx hb d_Words_worthOf_42 (by decide) ?_
        refine lv_lload hx hb d_Words_worthOf_80 (lv_at hl 1 rfl) ?_
        have hP9 := hP.sub (ws' := [(oT, .inr (5, [.ref aT, .int tl])), (aT, .inl (cB, 800, .inl tf))]) [0, 1] rfl
        have hD9 := hD.sub (ws' := [(oT, .inr (5, [.ref aT, .int tl])), (aT, .inl (cB, 800, .inl tf))]) [0, 1] (by decide) rfl
        exact W.lret (v := wo) hx hb hr (fun t ht hW => ⟨⟨wo, (), rfl, by rw [hF], by rw [ht]; exact hP9, hD9⟩, hS.F ht⟩) hS.2.2 d_Words_worthOf_82
      · have hF := hF.trans (if_neg c_5)
        refine lv_lload hx hb d_Words_worthOf_17 (lv_at hl 1 rfl) ?_
        refine lv_ldc2 (v := 10) hx hb hown (htb _ mb_247) d_Words_worthOf_19 ?_
        refine lv_lmul hx hb d_Words_worthOf_22 ?_
        refine lv_aload_n hx hb d_Words_worthOf_23 rfl (lv_at hl 2 rfl) ?_
        refine lv_iload hx hb d_Words_worthOf_24 (lv_at hl 0 rfl) ?_
        have hPc := hP.sub (ws' := [(oT, .inr (5, [.ref aT, .int tl])), (aT, .inl (cB, 800, .inl tf))]) [0, 1] rfl
        have hDc := hD.sub (ws' := [(oT, .inr (5, [.ref aT, .int tl])), (aT, .inl (cB, 800, .inl tf))]) [0, 1] (by decide) rfl
        have hFc := va_free (wc := [(oT, .inr (5, [.ref aT, .int tl])), (aT, .inl (cB, 800, .inl tf))]) hD hS hA [0, 1] rfl
        refine va_calli (va_runV (As := [.int i]) (rest := [.long (wo * 10)]) ⟨hx, hb, hml, hown, htb⟩ (c_Text_at l dC dI cB cI cJ oT aT _ i tl tf ) ⟨callB_of 1 htb (gb_all mb_231) rfl rfl rfl (htb _ mb_2) (htb _ mb_228) (by decide +kernel) ⟨Nat.le_of_ble_eq_true rfl, Nat.le_of_ble_eq_true rfl⟩, htb _ mb_229, htb _ mb_230⟩ ⟨kb_blind, va_recv hK hPc (ci := 5) (q0 := 0) rfl rfl, kb_at hPc hDc hKx⟩ rfl rfl hl.1 rfl (lv_room (Nat.le_of_ble_eq_true rfl)) d_Words_worthOf_26 ⟨Nat.le_of_ble_eq_true rfl, Nat.le_of_ble_eq_true rfl⟩) hS (fun q _ h => hFc q h) hFc (fun z_6 u t H1 locs ht hvm hw hB hz1 hk1 hS => ?_)
        have hz_6 := hw
        have hF := hF.trans (lt_e hz_6)
        obtain ⟨hP1, hD1⟩ := hB
        rw [ht] at hP1
        obtain ⟨hP, hD⟩ := va_join (wr := []) (w1 := [(oT, .inr (5, [.ref aT, .int tl])), (aT, .inl (cB, 800, .inl tf))]) hP hD [0, 1] [] rfl rfl (by decide) (by decide) hk1 hFc hP1 hD1
        generalize H1 = H at hP hS ⊢
        have hP : va_P (dC, dI) vwCl [(oT, .inr (5, [.ref aT, .int tl])), (aT, .inl (cB, 800, .inl tf))] H := hP
        have hD : va_D A [(oT, .inr (5, [.ref aT, .int tl])), (aT, .inl (cB, 800, .inl tf))] := hD
        refine lv_bipush (v := 48) hx hb d_Words_worthOf_29 (by decide) ?_
        refine lv_isub hx hb d_Words_worthOf_31 ?_
        refine lv_i2l (v := (z_6 - 48).toInt64) hx hb d_Words_worthOf_32 rfl ?_
        refine lv_ladd hx hb d_Words_worthOf_33 ?_
        refine lv_lstore (lv' := [(4, .long ((wo * 10) + ((z_6 - 48).toInt64))), (6, .int i), (0, .ref oT), (1, .int fr), (2, .int bh), (3, .int kd)]) hx hb d_Words_worthOf_34 hl (by decide) rfl (fun ls hl => ?_)
        refine lv_iinc (v := i + 1) (lv' := [(6, .int (i + 1)), (4, .long ((wo * 10) + ((z_6 - 48).toInt64))), (0, .ref oT), (1, .int fr), (2, .int bh), (3, .int kd)]) hx hb d_Words_worthOf_36 hl (k := 1) rfl (by first | rfl | decide) (by decide) rfl (fun ls hl => ?_)
        refine lv_goto (tgt := 11) hx hb d_Words_worthOf_39 (by decide) ?_
        exact ih (i + 1) ((wo * 10) + ((z_6 - 48).toInt64)) (oi_u c_5 hn) hF _ _ _ (hP.sub [0, 1] rfl) (hD.sub [0, 1] (by decide) rfl) hS (lv_sub hl [0, 1, 2, 3, 4, 5] rfl)
  refine lv_lconst (v := 0) hx hb d_Words_worthOf_0 (by decide) ?_
  refine lv_lstore (lv' := [(4, .long 0), (0, .ref oT), (1, .int fr), (2, .int bh), (3, .int kd)]) hx hb d_Words_worthOf_1 hl (by decide) rfl (fun ls hl => ?_)
  refine lv_iload_n hx hb d_Words_worthOf_3 rfl (lv_at hl 4 rfl) ?_
  refine lv_iconst (v := 2) hx hb d_Words_worthOf_4 (by decide) ?_
  refine lv_icmp_ne (tgt := 45) hx hb d_Words_worthOf_5 (by decide) (fun c_1 => ?_) (fun c_1 => ?_)
  · have hF := hF.trans (if_neg c_1)
    refine lv_iload_n hx hb d_Words_worthOf_45 rfl (lv_at hl 4 rfl) ?_
    refine lv_iconst (v := 3) hx hb d_Words_worthOf_46 (by decide) ?_
    refine lv_icmp_ne (tgt := 80) hx hb d_Words_worthOf_47 (by decide) (fun c_2 => ?_) (fun c_2 => ?_)
    · have hF := hF.trans (if_neg c_2)
      refine lv_lload hx hb d_Words_worthOf_80 (lv_at hl 0 rfl) ?_
      have hP9 := hP.sub (ws' := [(oT, .inr (5, [.ref aT, .int tl])), (aT, .inl (cB, 800, .inl tf))]) [0, 1] rfl
      have hD9 := hD.sub (ws' := [(oT, .inr (5, [.ref aT, .int tl])), (aT, .inl (cB, 800, .inl tf))]) [0, 1] (by decide) rfl
      exact W.lret (v := (0 : Int64)) hx hb hr (fun t ht hW => ⟨⟨(0 : Int64), (), rfl, by rw [hF], by rw [ht]; exact hP9, hD9⟩, hS.F ht⟩) hS.2.2 d_Words_worthOf_82
    · have hF := hF.trans (if_pos c_2)
      refine lv_iload_n hx hb d_Words_worthOf_50 rfl (lv_at hl 2 rfl) ?_
      refine lv_istore (lv' := [(6, .int fr), (4, .long 0), (0, .ref oT), (1, .int fr), (2, .int bh), (3, .int kd)]) hx hb d_Words_worthOf_51 hl (by decide) rfl (fun ls hl => ?_)
      exact lp53 ((bh.toInt - fr.toInt).toNat + 1) fr 0 (Nat.lt_succ_self _) hF _ _ _ (hP.sub [0, 1] rfl) (hD.sub [0, 1] (by decide) rfl) hS (lv_sub hl [0, 1, 2, 3, 4, 5] rfl)
  · have hF := hF.trans (if_pos c_1)
    refine lv_iload_n hx hb d_Words_worthOf_8 rfl (lv_at hl 2 rfl) ?_
    refine lv_istore (lv' := [(6, .int fr), (4, .long 0), (0, .ref oT), (1, .int fr), (2, .int bh), (3, .int kd)]) hx hb d_Words_worthOf_9 hl (by decide) rfl (fun ls hl => ?_)
    exact lp11 ((bh.toInt - fr.toInt).toNat + 1) fr 0 (Nat.lt_succ_self _) hF _ _ _ (hP.sub [0, 1] rfl) (hD.sub [0, 1] (by decide) rfl) hS (lv_sub hl [0, 1, 2, 3, 4, 5] rfl)
