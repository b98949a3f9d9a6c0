def f_Reckoner_restart : Int32 × Int64 := (0, 0)
abbrev q_Reckoner_restart (dC : Nat → ClassId) (dI : Nat → Nat → Nat) (cB cI cJ : ClassId) (oR aU aL : Nat) (pe : Int32) (wy : Int32) (mi : Int64) (ru : (Nat → Int64)) (rl : (Nat → Int64)) (A : Nat → Prop) : Array Value → State → Outcome → State → Prop := va_Qv (fun u : Int32 × Int64 => u = f_Reckoner_restart) (fun u t => va_P (dC, dI) vwCl [(oR, .inr (4, [.ref aU, .ref aL, .int pe, .int u.1, .long u.2])), (aU, .inl (cJ, 19, .inr (.inl ru))), (aL, .inl (cJ, 19, .inr (.inl rl)))] t.heap ∧ va_D A [(oR, .inr (4, [.ref aU, .ref aL, .int pe, .int u.1, .long u.2])), (aU, .inl (cJ, 19, .inr (.inl ru))), (aL, .inl (cJ, 19, .inr (.inl rl)))]) A
set_option maxHeartbeats 4000000 in
set_option maxRecDepth 100000 in
theorem c_Reckoner_restart (l : Launch) (dC : Nat → ClassId) (dI : Nat → Nat → Nat) (cB cI cJ : ClassId) (oR aU aL : Nat) (sz : Nat) (pe : Int32) (wy : Int32) (mi : Int64) (ru : (Nat → Int64)) (rl : (Nat → Int64)) : Met l y_Reckoner_restart (cw_Reckoner_restart :: bgw) { frames := 0, cells := 0, slots := 0, locals := 0 } (va_Pc [.ref oR] (kb_B dC dI cB cI cJ [(oR, .inr (4, [.ref aU, .ref aL, .int pe, .int wy, .long mi])), (aU, .inl (cJ, 19, .inr (.inl ru))), (aL, .inl (cJ, 19, .inr (.inl rl)))] sz)) (q_Reckoner_restart dC dI cB cI cJ oR aU aL pe wy mi ru rl (va_A [(oR, .inr (4, [.ref aU, .ref aL, .int pe, .int wy, .long mi])), (aU, .inl (cJ, 19, .inr (.inl ru))), (aL, .inl (cJ, 19, .inr (.inl rl)))] sz)) 0 0 (va_A [(oR, .inr (4, [.ref aU, .ref aL, .int pe, .int wy, .long mi])), (aU, .inl (cJ, 19, .inr (.inl ru))), (aL, .inl (cJ, 19, .inr (.inl rl)))] sz) := by
  refine Met.ofW (cc := prog_6_method_2_code) (maxL := 1) (ret := none) (by decide) rfl ?_
  intro p e s m args below meth c s₁ B hml hv
  obtain ⟨rfl, hsz, hP, hKx, hD0⟩ := hv
  have hx := B.exec
  have hb := B.bytes
  have hr := B.returns
  have hts := atoms_spec (ws := (cw_Reckoner_restart :: bgw)) B.pre
  have hown : s.vm.findClass "PermitRules$Reckoner" = some m.cls := findClass_of_methodNamed B.named
  have hlocks := B.notSynchronized
  have htb := fun (w : Cond) (h : w ∈ bgw) => hts w (List.mem_cons_of_mem _ h)
  have hK := hKx.1
  subst hsz
  have hD := hD0.self (sz := s.heap.size)
  generalize hAe : va_A [(oR, .inr (4, [.ref aU, .ref aL, .int pe, .int wy, .long mi])), (aU, .inl (cJ, 19, .inr (.inl ru))), (aL, .inl (cJ, 19, .inr (.inl rl)))] s.heap.size = A at hD ⊢
  have hA : ∀ q : Nat, s.heap.size ≤ q → A q := fun q h => by rw [← hAe]; exact Or.inr h
  have hS : va_S A s.heap s.heap [] := va_S.rf
  have hl := lv_entry ([.ref oR]) (n := 1) (Nat.le_of_ble_eq_true rfl)
  rw [lg_entry_eq]
  generalize (lg_sl ([.ref oR]) ++ List.replicate (1 - (lg_sl ([.ref oR])).length) Slot.unset).toArray = ls at hl ⊢
  have hl : lv_has ls 1 [(0, .ref oR)] := hl
  have hP : va_P (dC, dI) vwCl [(oR, .inr (4, [.ref aU, .ref aL, .int pe, .int wy, .long mi])), (aU, .inl (cJ, 19, .inr (.inl ru))), (aL, .inl (cJ, 19, .inr (.inl rl)))] s.heap := hP
  have hF : f_Reckoner_restart = (0, 0) := rfl
  refine lv_aload_n hx hb d_Reckoner_restart_0 rfl (lv_at hl 0 rfl) ?_
  refine lv_iconst (v := 0) hx hb d_Reckoner_restart_1 (by decide) ?_
  refine va_put (D := (dC, dI)) (ci := 4) (v := .int 0) (ty := .int) (C := "PermitRules$Reckoner") (T := T_Reckoner) (N := 5) hx hb htb in_Reckoner ty_Reckoner to_Reckoner nm_Reckoner hown hK hP hD hS 0 rfl rfl 3 (by decide) (htb _ mb_101) (fun _ h9 => h9) rfl (by decide +kernel) rfl rfl (Nat.le_of_ble_eq_true rfl) d_Reckoner_restart_2 (fun H locs hP hD hS => ?_)
  have hP : va_P (dC, dI) vwCl [(oR, .inr (4, [.ref aU, .ref aL, .int pe, .int 0, .long mi])), (aU, .inl (cJ, 19, .inr (.inl ru))), (aL, .inl (cJ, 19, .inr (.inl rl)))] H := hP
  have hD : va_D A [(oR, .inr (4, [.ref aU, .ref aL, .int pe, .int 0, .long mi])), (aU, .inl (cJ, 19, .inr (.inl ru))), (aL, .inl (cJ, 19, .inr (.inl rl)))] := hD
  refine lv_aload_n hx hb d_Reckoner_restart_5 rfl (lv_at hl 0 rfl) ?_
  refine lv_lconst (v := 0) hx hb d_Reckoner_restart_6 (by decide) ?_
  refine va_put (D := (dC, dI)) (ci := 4) (v := .long 0) (ty := .long) (C := "PermitRules$Reckoner") (T := T_Reckoner) (N := 5) hx hb htb in_Reckoner ty_Reckoner to_Reckoner nm_Reckoner hown hK hP hD hS 0 rfl rfl 4 (by decide) (htb _ mb_104) (fun _ h9 => h9) rfl (by decide +kernel) rfl rfl (Nat.le_of_ble_eq_true rfl) d_Reckoner_restart_7 (fun H locs hP hD hS => ?_)
  have hP : va_P (dC, dI) vwCl [(oR, .inr (4, [.ref aU, .ref aL, .int pe, .int 0, .long 0])), (aU, .inl (cJ, 19, .inr (.inl ru))), (aL, .inl (cJ, 19, .inr (.inl rl)))] H := hP
  have hD : va_D A [(oR, .inr (4, [.ref aU, .ref aL, .int pe, .int 0, .long 0])), (aU, .inl (cJ, 19, .inr (.inl ru))), (aL, .inl (cJ, 19, .inr (.inl rl)))] := hD
  have hP9 := hP.sub (ws' := [(oR, .inr (4, [.ref aU, .ref aL, .int pe, .int 0, .long 0])), (aU, .inl (cJ, 19, .inr (.inl ru))), (aL, .inl (cJ, 19, .inr (.inl rl)))]) [0, 1, 2] rfl
  have hD9 := hD.sub (ws' := [(oR, .inr (4, [.ref aU, .ref aL, .int pe, .int 0, .long 0])), (aU, .inl (cJ, 19, .inr (.inl ru))), (aL, .inl (cJ, 19, .inr (.inl rl)))]) [0, 1, 2] (by decide) rfl
  exact W.vret hx hb hr (fun t ht hW => ⟨⟨(0, 0), rfl, by rw [hF], by rw [ht]; exact hP9, hD9⟩, hS.F ht⟩) hS.2.2 d_Reckoner_restart_10
def f_Reckoner_upper (pe : Int32) (wy : Int32) (ru : (Nat → Int64)) : Int64 := (if wy = 0 then (if pe ≤ 0 then 0 else (if 19 < pe then 0 else ru (pe - 1).toNatClampNeg)) else 0)
abbrev q_Reckoner_upper (dC : Nat → ClassId) (dI : Nat → Nat → Nat) (cB cI cJ : ClassId) (oR aU aL : Nat) (pe : Int32) (wy : Int32) (mi : Int64) (ru : (Nat → Int64)) (rl : (Nat → Int64)) (A : Nat → Prop) : Array Value → State → Outcome → State → Prop := va_Ql (fun (r : Int64) (u : Unit) => r = f_Reckoner_upper pe wy ru) (fun u t => va_P (dC, dI) vwCl [(oR, .inr (4, [.ref aU, .ref aL, .int pe, .int wy, .long mi])), (aU, .inl (cJ, 19, .inr (.inl ru))), (aL, .inl (cJ, 19, .inr (.inl rl)))] t.heap ∧ va_D A [(oR, .inr (4, [.ref aU, .ref aL, .int pe, .int wy, .long mi])), (aU, .inl (cJ, 19, .inr (.inl ru))), (aL, .inl (cJ, 19, .inr (.inl rl)))]) A
set_option maxHeartbeats 4000000 in
set_option maxRecDepth 100000 in
theorem c_Reckoner_upper (l : Launch) (dC : Nat → ClassId) (dI : Nat → Nat → Nat) (cB cI cJ : ClassId) (oR aU aL : Nat) (sz : Nat) (pe : Int32) (wy : Int32) (mi : Int64) (ru : (Nat → Int64)) (rl : (Nat → Int64)) : Met l y_Reckoner_upper (cw_Reckoner_upper :: bgw) { frames := 0, cells := 0, slots := 0, locals := 0 } (va_Pc [.ref oR] (kb_B dC dI cB cI cJ [(oR, .inr (4, [.ref aU, .ref aL, .int pe, .int wy, .long mi])), (aU, .inl (cJ, 19, .inr (.inl ru))), (aL, .inl (cJ, 19, .inr (.inl rl)))] sz)) (q_Reckoner_upper dC dI cB cI cJ oR aU aL pe wy mi ru rl (va_A [(oR, .inr (4, [.ref aU, .ref aL, .int pe, .int wy, .long mi])), (aU, .inl (cJ, 19, .inr (.inl ru))), (aL, .inl (cJ, 19, .inr (.inl rl)))] sz)) 0 0 (va_A [(oR, .inr (4, [.ref aU, .ref aL, .int pe, .int wy, .long mi])), (aU, .inl (cJ, 19, .inr (.inl ru))), (aL, .inl (cJ, 19, .inr (.inl rl)))] sz) := by
  refine Met.ofW (cc := prog_6_method_4_code) (maxL := 1) (ret := (some .long)) (by decide) rfl ?_
  intro p e s m args below meth c s₁ B hml hv
  obtain ⟨rfl, hsz, hP, hKx, hD0⟩ := hv
  have hx := B.exec
  have hb := B.bytes
  have hr := B.returns
  have hts := atoms_spec (ws := (cw_Reckoner_upper :: bgw)) B.pre
  have hown : s.vm.findClass "PermitRules$Reckoner" = some m.cls := findClass_of_methodNamed B.named
  have hlocks := B.notSynchronized
  have htb := fun (w : Cond) (h : w ∈ bgw) => hts w (List.mem_cons_of_mem _ h)
  have hK := hKx.1
  subst hsz
  have hD := hD0.self (sz := s.heap.size)
  generalize hAe : va_A [(oR, .inr (4, [.ref aU, .ref aL, .int pe, .int wy, .long mi])), (aU, .inl (cJ, 19, .inr (.inl ru))), (aL, .inl (cJ, 19, .inr (.inl rl)))] s.heap.size = A at hD ⊢
  have hA : ∀ q : Nat, s.heap.size ≤ q → A q := fun q h => by rw [← hAe]; exact Or.inr h
  have hS : va_S A s.heap s.heap [] := va_S.rf
  have hl := lv_entry ([.ref oR]) (n := 1) (Nat.le_of_ble_eq_true rfl)
  rw [lg_entry_eq]
  generalize (lg_sl ([.ref oR]) ++ List.replicate (1 - (lg_sl ([.ref oR])).length) Slot.unset).toArray = ls at hl ⊢
  have hl : lv_has ls 1 [(0, .ref oR)] := hl
  have hP : va_P (dC, dI) vwCl [(oR, .inr (4, [.ref aU, .ref aL, .int pe, .int wy, .long mi])), (aU, .inl (cJ, 19, .inr (.inl ru))), (aL, .inl (cJ, 19, .inr (.inl rl)))] s.heap := hP
  have hF : f_Reckoner_upper pe wy ru = (if wy = 0 then (if pe ≤ 0 then 0 else (if 19 < pe then 0 else ru (pe - 1).toNatClampNeg)) else 0) := rfl
  refine lv_aload_n hx hb d_Reckoner_upper_0 rfl (lv_at hl 0 rfl) ?_
  refine va_get (D := (dC, dI)) (ci := 4) (v := .int wy) (C := "PermitRules$Reckoner") (T := T_Reckoner) (N := 5) hx hb htb in_Reckoner hown hK hP 0 rfl rfl 3 (by decide) (htb _ mb_101) (fun _ h9 => h9) rfl d_Reckoner_upper_1 ?_
  refine lv_if_ne (tgt := 40) hx hb d_Reckoner_upper_4 (by decide) (fun c_1 => ?_) (fun c_1 => ?_)
  · have hF := hF.trans (if_neg c_1)
    refine lv_lconst (v := 0) hx hb d_Reckoner_upper_40 (by decide) ?_
    have hP9 := hP.sub (ws' := [(oR, .inr (4, [.ref aU, .ref aL, .int pe, .int wy, .long mi])), (aU, .inl (cJ, 19, .inr (.inl ru))), (aL, .inl (cJ, 19, .inr (.inl rl)))]) [0, 1, 2] rfl
    have hD9 := hD.sub (ws' := [(oR, .inr (4, [.ref aU, .ref aL, .int pe, .int wy, .long mi])), (aU, .inl (cJ, 19, .inr (.inl ru))), (aL, .inl (cJ, 19, .inr (.inl rl)))]) [0, 1, 2] (by decide) rfl
    exact W.lret (v := (0 : Int64)) hx hb hr (fun t ht hW => ⟨⟨(0 : Int64), (), rfl, by rw [hF], by rw [ht]; exact hP9, hD9⟩, hS.F ht⟩) hS.2.2 d_Reckoner_upper_41
  · have hF := hF.trans (if_pos c_1)
    refine lv_aload_n hx hb d_Reckoner_upper_7 rfl (lv_at hl 0 rfl) ?_
    refine va_get (D := (dC, dI)) (ci := 4) (v := .int pe) (C := "PermitRules$Reckoner") (T := T_Reckoner) (N := 5) hx hb htb in_Reckoner hown hK hP 0 rfl rfl 2 (by decide) (htb _ mb_100) (fun _ h9 => h9) rfl d_Reckoner_upper_8 ?_
    refine lv_if_le (tgt := 40) hx hb d_Reckoner_upper_11 (by decide) (fun c_2 => ?_) (fun c_2 => ?_)
    · have hF := hF.trans (if_pos c_2)
      refine lv_lconst (v := 0) hx hb d_Reckoner_upper_40 (by decide) ?_
      have hP9 := hP.sub (ws' := [(oR, .inr (4, [.ref aU, .ref aL, .int pe, .int wy, .long mi])), (aU, .inl (cJ, 19, .inr (.inl ru))), (aL, .inl (cJ, 19, .inr (.inl rl)))]) [0, 1, 2] rfl
      have hD9 := hD.sub (ws' := [(oR, .inr (4, [.ref aU, .ref aL, .int pe, .int wy, .long mi])), (aU, .inl (cJ, 19, .inr (.inl ru))), (aL, .inl (cJ, 19, .inr (.inl rl)))]) [0, 1, 2] (by decide) rfl
      exact W.lret (v := (0 : Int64)) hx hb hr (fun t ht hW => ⟨⟨(0 : Int64), (), rfl, by rw [hF], by rw [ht]; exact hP9, hD9⟩, hS.F ht⟩) hS.2.2 d_Reckoner_upper_41
    · have hF := hF.trans (if_neg c_2)
      refine lv_aload_n hx hb d_Reckoner_upper_14 rfl (lv_at hl 0 rfl) ?_
      refine va_get (D := (dC, dI)) (ci := 4) (v := .int pe) (C := "PermitRules$Reckoner") (T := T_Reckoner) (N := 5) hx hb htb in_Reckoner hown hK hP 0 rfl rfl 2 (by decide) (htb _ mb_100) (fun _ h9 => h9) rfl d_Reckoner_upper_15 ?_
      refine lv_aload_n hx hb d_Reckoner_upper_18 rfl (lv_at hl 0 rfl) ?_
      refine va_get (D := (dC, dI)) (ci := 4) (v := .ref aU) (C := "PermitRules$Reckoner") (T := T_Reckoner) (N := 5) hx hb htb in_Reckoner hown hK hP 0 rfl rfl 0 (by decide) (htb _ mb_98) (fun _ h9 => h9) rfl d_Reckoner_upper_19 ?_
      refine va_alen (v := 19) hx hb hK hP 1 2 rfl rfl (by rfl) d_Reckoner_upper_22 ?_
      refine lv_icmp_gt (tgt := 40) hx hb d_Reckoner_upper_23 (by decide) (fun c_3 => ?_) (fun c_3 => ?_)
      · have hF := hF.trans (if_pos c_3)
        refine lv_lconst (v := 0) hx hb d_Reckoner_upper_40 (by decide) ?_
        have hP9 := hP.sub (ws' := [(oR, .inr (4, [.ref aU, .ref aL, .int pe, .int wy, .long mi])), (aU, .inl (cJ, 19, .inr (.inl ru))), (aL, .inl (cJ, 19, .inr (.inl rl)))]) [0, 1, 2] rfl
        have hD9 := hD.sub (ws' := [(oR, .inr (4, [.ref aU, .ref aL, .int pe, .int wy, .long mi])), (aU, .inl (cJ, 19, .inr (.inl ru))), (aL, .inl (cJ, 19, .inr (.inl rl)))]) [0, 1, 2] (by decide) rfl
        exact W.lret (v := (0 : Int64)) hx hb hr (fun t ht hW => ⟨⟨(0 : Int64), (), rfl, by rw [hF], by rw [ht]; exact hP9, hD9⟩, hS.F ht⟩) hS.2.2 d_Reckoner_upper_41
      · have hF := hF.trans (if_neg c_3)
        refine lv_aload_n hx hb d_Reckoner_upper_26 rfl (lv_at hl 0 rfl) ?_
        refine va_get (D := (dC, dI)) (ci := 4) (v := .ref aU) (C := "PermitRules$Reckoner") (T := T_Reckoner) (N := 5) hx hb htb in_Reckoner hown hK hP 0 rfl rfl 0 (by decide) (htb _ mb_98) (fun _ h9 => h9) rfl d_Reckoner_upper_27 ?_
        refine lv_aload_n hx hb d_Reckoner_upper_30 rfl (lv_at hl 0 rfl) ?_
        refine va_get (D := (dC, dI)) (ci := 4) (v := .int pe) (C := "PermitRules$Reckoner") (T := T_Reckoner) (N := 5) hx hb htb in_Reckoner hown hK hP 0 rfl rfl 2 (by decide) (htb _ mb_100) (fun _ h9 => h9) rfl d_Reckoner_upper_31 ?_
        refine lv_iconst (v := 1) hx hb d_Reckoner_upper_34 (by decide) ?_
        refine lv_isub hx hb d_Reckoner_upper_35 ?_
        refine va_lald hx hb hK hP 1 2 rfl rfl (oi_in1 (N := 19) (by decide) c_2 c_3) d_Reckoner_upper_36 ?_
        refine lv_goto (tgt := 41) hx hb d_Reckoner_upper_37 (by decide) ?_
        have hP9 := hP.sub (ws' := [(oR, .inr (4, [.ref aU, .ref aL, .int pe, .int wy, .long mi])), (aU, .inl (cJ, 19, .inr (.inl ru))), (aL, .inl (cJ, 19, .inr (.inl rl)))]) [0, 1, 2] rfl
        have hD9 := hD.sub (ws' := [(oR, .inr (4, [.ref aU, .ref aL, .int pe, .int wy, .long mi])), (aU, .inl (cJ, 19, .inr (.inl ru))), (aL, .inl (cJ, 19, .inr (.inl rl)))]) [0, 1, 2] (by decide) rfl
        exact W.lret (v := ru (pe - 1).toNatClampNeg) hx hb hr (fun t ht hW => ⟨⟨ru (pe - 1).toNatClampNeg, (), rfl, by rw [hF], by rw [ht]; exact hP9, hD9⟩, hS.F ht⟩) hS.2.2 d_Reckoner_upper_41
def f_Reckoner_lower (pe : Int32) (wy : Int32) (rl : (Nat → Int64)) : Int64 := (if wy = 0 then (if pe ≤ 0 then 0 else (if 19 < pe then 0 else rl (pe - 1).toNatClampNeg)) else 0)
abbrev q_Reckoner_lower (dC : Nat → ClassId) (dI : Nat → Nat → Nat) (cB cI cJ : ClassId) (oR aU aL : Nat) (pe : Int32) (wy : Int32) (mi : Int64) (ru : (Nat → Int64)) (rl : (Nat → Int64)) (A : Nat → Prop) : Array Value → State → Outcome → State → Prop := va_Ql (fun (r : Int64) (u : Unit) => r = f_Reckoner_lower pe wy rl) (fun u t => va_P (dC, dI) vwCl [(oR, .inr (4, [.ref aU, .ref aL, .int pe, .int wy, .long mi])), (aU, .inl (cJ, 19, .inr (.inl ru))), (aL, .inl (cJ, 19, .inr (.inl rl)))] t.heap ∧ va_D A [(oR, .inr (4, [.ref aU, .ref aL, .int pe, .int wy, .long mi])), (aU, .inl (cJ, 19, .inr (.inl ru))), (aL, .inl (cJ, 19, .inr (.inl rl)))]) A
set_option maxHeartbeats 4000000 in
set_option maxRecDepth 100000 in
theorem c_Reckoner_lower (l : Launch) (dC : Nat → ClassId) (dI : Nat → Nat → Nat) (cB cI cJ : ClassId) (oR aU aL : Nat) (sz : Nat) (pe : Int32) (wy : Int32) (mi : Int64) (ru : (Nat → Int64)) (rl : (Nat → Int64)) : Met l y_Reckoner_lower (cw_Reckoner_lower :: bgw) { frames := 0, cells := 0, slots := 0, locals := 0 } (va_Pc [.ref oR] (kb_B dC dI cB cI cJ [(oR, .inr (4, [.ref aU, .ref aL, .int pe, .int wy, .long mi])), (aU, .inl (cJ, 19, .inr (.inl ru))), (aL, .inl (cJ, 19, .inr (.inl rl)))] sz)) (q_Reckoner_lower dC dI cB cI cJ oR aU aL pe wy mi ru rl (va_A [(oR, .inr (4, [.ref aU, .ref aL, .int pe, .int wy, .long mi])), (aU, .inl (cJ, 19, .inr (.inl ru))), (aL, .inl (cJ, 19, .inr (.inl rl)))] sz)) 0 0 (va_A [(oR, .inr (4, [.ref aU, .ref aL, .int pe, .int wy, .long mi])), (aU, .inl (cJ, 19, .inr (.inl ru))), (aL, .inl (cJ, 19, .inr (.inl rl)))] sz) := by
  refine Met.ofW (cc := prog_6_method_5_code) (maxL := 1) (ret := (some .long)) (by decide) rfl ?_
  intro p e s m args below meth c s₁ B hml hv
  obtain ⟨rfl, hsz, hP, hKx, hD0⟩ := hv
  have hx := B.exec
  have hb := B.bytes
  have hr := B.returns
  have hts := atoms_spec (ws := (cw_Reckoner_lower :: bgw)) B.pre
  have hown : s.vm.findClass "PermitRules$Reckoner" = some m.cls := findClass_of_methodNamed B.named
  have hlocks := B.notSynchronized
  have htb := fun (w : Cond) (h : w ∈ bgw) => hts w (List.mem_cons_of_mem _ h)
  have hK := hKx.1
  subst hsz
  have hD := hD0.self (sz := s.heap.size)
  generalize hAe : va_A [(oR, .inr (4, [.ref aU, .ref aL, .int pe, .int wy, .long mi])), (aU, .inl (cJ, 19, .inr (.inl ru))), (aL, .inl (cJ, 19, .inr (.inl rl)))] s.heap.size = A at hD ⊢
  have hA : ∀ q : Nat, s.heap.size ≤ q → A q := fun q h => by rw [← hAe]; exact Or.inr h
  have hS : va_S A s.heap s.heap [] := va_S.rf
  have hl := lv_entry ([.ref oR]) (n := 1) (Nat.le_of_ble_eq_true rfl)
  rw [lg_entry_eq]
  generalize (lg_sl ([.ref oR]) ++ List.replicate (1 - (lg_sl ([.ref oR])).length) Slot.unset).toArray = ls at hl ⊢
  have hl : lv_has ls 1 [(0, .ref oR)] := hl
  have hP : va_P (dC, dI) vwCl [(oR, .inr (4, [.ref aU, .ref aL, .int pe, .int wy, .long mi])), (aU, .inl (cJ, 19, .inr (.inl ru))), (aL, .inl (cJ, 19, .inr (.inl rl)))] s.heap := hP
  have hF : f_Reckoner_lower pe wy rl = (if wy = 0 then (if pe ≤ 0 then 0 else (if 19 < pe then 0 else rl (pe - 1).toNatClampNeg)) else 0) := rfl
  refine lv_aload_n hx hb d_Reckoner_lower_0 rfl (lv_at hl 0 rfl) ?_
  refine va_get (D := (dC, dI)) (ci := 4) (v := .int wy) (C := "PermitRules$Reckoner") (T := T_Reckoner) (N := 5) hx hb htb in_Reckoner hown hK hP 0 rfl rfl 3 (by decide) (htb _ mb_101) (fun _ h9 => h9) rfl d_Reckoner_lower_1 ?_
  refine lv_if_ne (tgt := 40) hx hb d_Reckoner_lower_4 (by decide) (fun c_1 => ?_) (fun c_1 => ?_)
  · have hF := hF.trans (if_neg c_1)
    refine lv_lconst (v := 0) hx hb d_Reckoner_lower_40 (by decide) ?_
    have hP9 := hP.sub (ws' := [(oR, .inr (4, [.ref aU, .ref aL, .int pe, .int wy, .long mi])), (aU, .inl (cJ, 19, .inr (.inl ru))), (aL, .inl (cJ, 19, .inr (.inl rl)))]) [0, 1, 2] rfl
    have hD9 := hD.sub (ws' := [(oR, .inr (4, [.ref aU, .ref aL, .int pe, .int wy, .long mi])), (aU, .inl (cJ, 19, .inr (.inl ru))), (aL, .inl (cJ, 19, .inr (.inl rl)))]) [0, 1, 2] (by decide) rfl
    exact W.lret (v := (0 : Int64)) hx hb hr (fun t ht hW => ⟨⟨(0 : Int64), (), rfl, by rw [hF], by rw [ht]; exact hP9, hD9⟩, hS.F ht⟩) hS.2.2 d_Reckoner_lower_41
  · have hF := hF.trans (if_pos c_1)
    refine lv_aload_n hx hb d_Reckoner_lower_7 rfl (lv_at hl 0 rfl) ?_
    refine va_get (D := (dC, dI)) (ci := 4) (v := .int pe) (C := "PermitRules$Reckoner") (T := T_Reckoner) (N := 5) hx hb htb in_Reckoner hown hK hP 0 rfl rfl 2 (by decide) (htb _ mb_100) (fun _ h9 => h9) rfl d_Reckoner_lower_8 ?_
    refine lv_if_le (tgt := 40) hx hb d_Reckoner_lower_11 (by decide) (fun c_2 => ?_) (fun c_2 => ?_)
    · have hF := hF.trans (if_pos c_2)
      refine lv_lconst (v := 0) hx hb d_Reckoner_lower_40 (by decide) ?_
      have hP9 := hP.sub (ws' := [(oR, .inr (4, [.ref aU, .ref aL, .int pe, .int wy, .long mi])), (aU, .inl (cJ, 19, .inr (.inl ru))), (aL, .inl (cJ, 19, .inr (.inl rl)))]) [0, 1, 2] rfl
      have hD9 := hD.sub (ws' := [(oR, .inr (4, [.ref aU, .ref aL, .int pe, .int wy, .long mi])), (aU, .inl (cJ, 19, .inr (.inl ru))), (aL, .inl (cJ, 19, .inr (.inl rl)))]) [0, 1, 2] (by decide) rfl
      exact W.lret (v := (0 : Int64)) hx hb hr (fun t ht hW => ⟨⟨(0 : Int64), (), rfl, by rw [hF], by rw [ht]; exact hP9, hD9⟩, hS.F ht⟩) hS.2.2 d_Reckoner_lower_41
    · have hF := hF.trans (if_neg c_2)
      refine lv_aload_n hx hb d_Reckoner_lower_14 rfl (lv_at hl 0 rfl) ?_
      refine va_get (D := (dC, dI)) (ci := 4) (v := .int pe) (C := "PermitRules$Reckoner") (T := T_Reckoner) (N := 5) hx hb htb in_Reckoner hown hK hP 0 rfl rfl 2 (by decide) (htb _ mb_100) (fun _ h9 => h9) rfl d_Reckoner_lower_15 ?_
      refine lv_aload_n hx hb d_Reckoner_lower_18 rfl (lv_at hl 0 rfl) ?_
      refine va_get (D := (dC, dI)) (ci := 4) (v := .ref aL) (C := "PermitRules$Reckoner") (T := T_Reckoner) (N := 5) hx hb htb in_Reckoner hown hK hP 0 rfl rfl 1 (by decide) (htb _ mb_99) (fun _ h9 => h9) rfl d_Reckoner_lower_19 ?_
      refine va_alen (v := 19) hx hb hK hP 2 2 rfl rfl (by rfl) d_Reckoner_lower_22 ?_
      refine lv_icmp_gt (tgt := 40) hx hb d_Reckoner_lower_23 (by decide) (fun c_3 => ?_) (fun c_3 => ?_)
      · have hF := hF.trans (if_pos c_3)
        refine lv_lconst (v := 0) hx hb d_Reckoner_lower_40 (by decide) ?_
        have hP9 := hP.sub (ws' := [(oR, .inr (4, [.ref aU, .ref aL, .int pe, .int wy, .long mi])), (aU, .inl (cJ, 19, .inr (.inl ru))), (aL, .inl (cJ, 19, .inr (.inl rl)))]) [0, 1, 2] rfl
        have hD9 := hD.sub (ws' := [(oR, .inr (4, [.ref aU, .ref aL, .int pe, .int wy, .long mi])), (aU, .inl (cJ, 19, .inr (.inl ru))), (aL, .inl (cJ, 19, .inr (.inl rl)))]) [0, 1, 2] (by decide) rfl
        exact W.lret (v := (0 : Int64)) hx hb hr (fun t ht hW => ⟨⟨(0 : Int64), (), rfl, by rw [hF], by rw [ht]; exact hP9, hD9⟩, hS.F ht⟩) hS.2.2 d_Reckoner_lower_41
      · have hF := hF.trans (if_neg c_3)
        refine lv_aload_n hx hb d_Reckoner_lower_26 rfl (lv_at hl 0 rfl) ?_
        refine va_get (D := (dC, dI)) (ci := 4) (v := .ref aL) (C := "PermitRules$Reckoner") (T := T_Reckoner) (N := 5) hx hb htb in_Reckoner hown hK hP 0 rfl rfl 1 (by decide) (htb _ mb_99) (fun _ h9 => h9) rfl d_Reckoner_lower_27 ?_
        refine lv_aload_n hx hb d_Reckoner_lower_30 rfl (lv_at hl 0 rfl) ?_
        refine va_get (D := (dC, dI)) (ci := 4) (v := .int pe) (C := "PermitRules$Reckoner") (T := T_Reckoner) (N := 5) hx hb htb in_Reckoner hown hK hP 0 rfl rfl 2 (by decide) (htb _ mb_100) (fun _ h9 => h9) rfl d_Reckoner_lower_31 ?_
        refine lv_iconst (v := 1) hx hb d_Reckoner_lower_34 (by decide) ?_
        refine lv_isub hx hb d_Reckoner_lower_35 ?_
        refine va_lald hx hb hK hP 2 2 rfl rfl (oi_in1 (N := 19) (by decide) c_2 c_3) d_Reckoner_lower_36 ?_
        refine lv_goto (tgt := 41) hx hb d_Reckoner_lower_37 (by decide) ?_
        have hP9 := hP.sub (ws' := [(oR, .inr (4, [.ref aU, .ref aL, .int pe, .int wy, .long mi])), (aU, .inl (cJ, 19, .inr (.inl ru))), (aL, .inl (cJ, 19, .inr (.inl rl)))]) [0, 1, 2] rfl
        have hD9 := hD.sub (ws' := [(oR, .inr (4, [.ref aU, .ref aL, .int pe, .int wy, .long mi])), (aU, .inl (cJ, 19, .inr (.inl ru))), (aL, .inl (cJ, 19, .inr (.inl rl)))]) [0, 1, 2] (by decide) rfl
        exact W.lret (v := rl (pe - 1).toNatClampNeg) hx hb hr (fun t ht hW => ⟨⟨rl (pe - 1).toNatClampNeg, (), rfl, by rw [hF], by rw [ht]; exact hP9, hD9⟩, hS.F ht⟩) hS.2.2 d_Reckoner_lower_41
def f_Reckoner_product (va : Int64) (vb : Int64) (wy : Int32) : Int64 × Int32 := (if (lg_cmp va 0) = 0 then (0, wy) else (if (lg_cmp vb 0) = 0 then (0, wy) else (if (lg_cmp vb (-1)) = 0 then (if (lg_cmp va (-9223372036854775808)) = 0 then (va * vb, 2) else (va * vb, wy)) else (if (lg_cmp ((va * vb) / vb) va) = 0 then (va * vb, wy) else (va * vb, 2)))))
abbrev q_Reckoner_product (dC : Nat → ClassId) (dI : Nat → Nat → Nat) (cB cI cJ : ClassId) (oR aU aL : Nat) (va : Int64) (vb : Int64) (pe : Int32) (wy : Int32) (mi : Int64) (ru : (Nat → Int64)) (rl : (Nat → Int64)) (A : Nat → Prop) : Array Value → State → Outcome → State → Prop := va_Ql (fun (r : Int64) (u : Int32) => r = (f_Reckoner_product va vb wy).1 ∧ u = (f_Reckoner_product va vb wy).2) (fun u t => va_P (dC, dI) vwCl [(oR, .inr (4, [.ref aU, .ref aL, .int pe, .int u, .long mi])), (aU, .inl (cJ, 19, .inr (.inl ru))), (aL, .inl (cJ, 19, .inr (.inl rl)))] t.heap ∧ va_D A [(oR, .inr (4, [.ref aU, .ref aL, .int pe, .int u, .long mi])), (aU, .inl (cJ, 19, .inr (.inl ru))), (aL, .inl (cJ, 19, .inr (.inl rl)))]) A
set_option maxHeartbeats 4000000 in
set_option maxRecDepth 100000 in
theorem c_Reckoner_product (l : Launch) (dC : Nat → ClassId) (dI : Nat → Nat → Nat) (cB cI cJ : ClassId) (oR aU aL : Nat) (sz : Nat) (va : Int64) (vb : Int64) (pe : Int32) (wy : Int32) (mi : Int64) (ru : (Nat → Int64)) (rl : (Nat → Int64)) : Met l y_Reckoner_product (cw_Reckoner_product :: bgw) { frames := 0, cells := 0, slots := 0, locals := 0 } (va_Pc [.ref oR, .long va, .long vb] (kb_B dC dI cB cI cJ [(oR, .inr (4, [.ref aU, .ref aL, .int pe, .int wy, .long mi])), (aU, .inl (cJ, 19, .inr (.inl ru))), (aL, .inl (cJ, 19, .inr (.inl rl)))] sz)) (q_Reckoner_product dC dI cB cI cJ oR aU aL va vb pe wy mi ru rl (va_A [(oR, .inr (4, [.ref aU, .ref aL, .int pe, .int wy, .long mi])), (aU, .inl (cJ, 19, .inr (.inl ru))), (aL, .inl (cJ, 19, .inr (.inl rl)))] sz)) 0 0 (va_A [(oR, .inr (4, [.ref aU, .ref aL, .int pe, .int wy, .long mi])), (aU, .inl (cJ, 19, .inr (.inl ru))), (aL, .inl (cJ, 19, .inr (.inl rl)))] sz) := by
  refine Met.ofW (cc := prog_6_method_6_code) (maxL := 8) (ret := (some .long)) (by decide) rfl ?_
  intro p e s m args below meth c s₁ B hml hv
  obtain ⟨rfl, hsz, hP, hKx, hD0⟩ := hv
  have hx := B.exec
  have hb := B.bytes
  have hr := B.returns
  have hts := atoms_spec (ws := (cw_Reckoner_product :: bgw)) B.pre
  have hown : s.vm.findClass "PermitRules$Reckoner" = some m.cls := findClass_of_methodNamed B.named
  have hlocks := B.notSynchronized
  have htb := fun (w : Cond) (h : w ∈ bgw) => hts w (List.mem_cons_of_mem _ h)
  have hK := hKx.1
  subst hsz
  have hD := hD0.self (sz := s.heap.size)
  generalize hAe : va_A [(oR, .inr (4, [.ref aU, .ref aL, .int pe, .int wy, .long mi])), (aU, .inl (cJ, 19, .inr (.inl ru))), (aL, .inl (cJ, 19, .inr (.inl rl)))] s.heap.size = A at hD ⊢
  have hA : ∀ q : Nat, s.heap.size ≤ q → A q := fun q h => by rw [← hAe]; exact Or.inr h
  have hS : va_S A s.heap s.heap [] := va_S.rf
  have hl := lv_entry ([.ref oR, .long va, .long vb]) (n := 8) (Nat.le_of_ble_eq_true rfl)
  rw [lg_entry_eq]
  generalize (lg_sl ([.ref oR, .long va, .long vb]) ++ List.replicate (8 - (lg_sl ([.ref oR, .long va, .long vb])).length) Slot.unset).toArray = ls at hl ⊢
  have hl : lv_has ls 8 [(0, .ref oR), (1, .long va), (3, .long vb)] := hl
  have hP : va_P (dC, dI) vwCl [(oR, .inr (4, [.ref aU, .ref aL, .int pe, .int wy, .long mi])), (aU, .inl (cJ, 19, .inr (.inl ru))), (aL, .inl (cJ, 19, .inr (.inl rl)))] s.heap := hP
  have hF : f_Reckoner_product va vb wy = (if (lg_cmp va 0) = 0 then (0, wy) else (if (lg_cmp vb 0) = 0 then (0, wy) else (if (lg_cmp vb (-1)) = 0 then (if (lg_cmp va (-9223372036854775808)) = 0 then (va * vb, 2) else (va * vb, wy)) else (if (lg_cmp ((va * vb) / vb) va) = 0 then (va * vb, wy) else (va * vb, 2))))) := rfl
  refine lv_lload_n hx hb d_Reckoner_product_0 rfl (lv_at hl 1 rfl) ?_
  refine lv_lconst (v := 0) hx hb d_Reckoner_product_1 (by decide) ?_
  refine W.lcmp hx hb d_Reckoner_product_2 ?_
  refine lv_if_eq (tgt := 12) hx hb d_Reckoner_product_3 (by decide) (fun c_1 => ?_) (fun c_1 => ?_)
  · have hF := hF.trans (if_pos c_1)
    refine lv_lconst (v := 0) hx hb d_Reckoner_product_12 (by decide) ?_
    have hP9 := hP.sub (ws' := [(oR, .inr (4, [.ref aU, .ref aL, .int pe, .int wy, .long mi])), (aU, .inl (cJ, 19, .inr (.inl ru))), (aL, .inl (cJ, 19, .inr (.inl rl)))]) [0, 1, 2] rfl
    have hD9 := hD.sub (ws' := [(oR, .inr (4, [.ref aU, .ref aL, .int pe, .int wy, .long mi])), (aU, .inl (cJ, 19, .inr (.inl ru))), (aL, .inl (cJ, 19, .inr (.inl rl)))]) [0, 1, 2] (by decide) rfl
    exact W.lret (v := (0 : Int64)) hx hb hr (fun t ht hW => ⟨⟨(0 : Int64), wy, rfl, ⟨by rw [hF], by rw [hF]⟩, by rw [ht]; exact hP9, hD9⟩, hS.F ht⟩) hS.2.2 d_Reckoner_product_13
  · have hF := hF.trans (if_neg c_1)
    refine lv_lload_n hx hb d_Reckoner_product_6 rfl (lv_at hl 2 rfl) ?_
    refine lv_lconst (v := 0) hx hb d_Reckoner_product_7 (by decide) ?_
    refine W.lcmp hx hb d_Reckoner_product_8 ?_
    refine lv_if_ne (tgt := 14) hx hb d_Reckoner_product_9 (by decide) (fun c_2 => ?_) (fun c_2 => ?_)
    · have hF := hF.trans (if_neg c_2)
      refine lv_lload_n hx hb d_Reckoner_product_14 rfl (lv_at hl 1 rfl) ?_
      refine lv_lload_n hx hb d_Reckoner_product_15 rfl (lv_at hl 2 rfl) ?_
      refine lv_lmul hx hb d_Reckoner_product_16 ?_
      refine lv_lstore (lv' := [(5, .long (va * vb)), (0, .ref oR), (1, .long va), (3, .long vb)]) hx hb d_Reckoner_product_17 hl (by decide) rfl (fun ls hl => ?_)
      refine lv_lload_n hx hb d_Reckoner_product_19 rfl (lv_at hl 3 rfl) ?_
      refine lv_ldc2 (v := (-1)) hx hb hown (htb _ mb_559) d_Reckoner_product_20 ?_
      refine W.lcmp hx hb d_Reckoner_product_23 ?_
      refine lv_if_ne (tgt := 43) hx hb d_Reckoner_product_24 (by decide) (fun c_3 => ?_) (fun c_3 => ?_)
      · have hF := hF.trans (if_neg c_3)
        refine lv_lload hx hb d_Reckoner_product_43 (lv_at hl 0 rfl) ?_
        refine lv_lload_n hx hb d_Reckoner_product_45 rfl (lv_at hl 3 rfl) ?_
        refine lv_ldiv hx hb d_Reckoner_product_46 (oi_nz c_2) ?_
        refine lv_lload_n hx hb d_Reckoner_product_47 rfl (lv_at hl 2 rfl) ?_
        refine W.lcmp hx hb d_Reckoner_product_48 ?_
        refine lv_if_ne (tgt := 56) hx hb d_Reckoner_product_49 (by decide) (fun c_4 => ?_) (fun c_4 => ?_)
        · have hF := hF.trans (if_neg c_4)
          refine lv_iconst (v := 0) hx hb d_Reckoner_product_56 (by decide) ?_
          refine lv_istore (lv' := [(7, .int 0), (5, .long (va * vb)), (0, .ref oR), (1, .long va), (3, .long vb)]) hx hb d_Reckoner_product_57 hl (by decide) rfl (fun ls hl => ?_)
          refine lv_iload hx hb d_Reckoner_product_59 (lv_at hl 0 rfl) ?_
          refine lv_if_ne (tgt := 69) hx hb d_Reckoner_product_61 (by decide) (fun c_5 => ?_) (fun c_5 => ?_)
          · exact absurd (by decide) c_5
          · skip
            refine lv_aload_n hx hb d_Reckoner_product_64 rfl (lv_at hl 2 rfl) ?_
            refine lv_iconst (v := 2) hx hb d_Reckoner_product_65 (by decide) ?_
            refine va_put (D := (dC, dI)) (ci := 4) (v := .int 2) (ty := .int) (C := "PermitRules$Reckoner") (T := T_Reckoner) (N := 5) hx hb htb in_Reckoner ty_Reckoner to_Reckoner nm_Reckoner hown hK hP hD hS 0 rfl rfl 3 (by decide) (htb _ mb_101) (fun _ h9 => h9) rfl (by decide +kernel) rfl rfl (Nat.le_of_ble_eq_true rfl) d_Reckoner_product_66 (fun H locs hP hD hS => ?_)
            have hP : va_P (dC, dI) vwCl [(oR, .inr (4, [.ref aU, .ref aL, .int pe, .int 2, .long mi])), (aU, .inl (cJ, 19, .inr (.inl ru))), (aL, .inl (cJ, 19, .inr (.inl rl)))] H := hP
            have hD : va_D A [(oR, .inr (4, [.ref aU, .ref aL, .int pe, .int 2, .long mi])), (aU, .inl (cJ, 19, .inr (.inl ru))), (aL, .inl (cJ, 19, .inr (.inl rl)))] := hD
            refine lv_lload hx hb d_Reckoner_product_69 (lv_at hl 1 rfl) ?_
            have hP9 := hP.sub (ws' := [(oR, .inr (4, [.ref aU, .ref aL, .int pe, .int 2, .long mi])), (aU, .inl (cJ, 19, .inr (.inl ru))), (aL, .inl (cJ, 19, .inr (.inl rl)))]) [0, 1, 2] rfl
            have hD9 := hD.sub (ws' := [(oR, .inr (4, [.ref aU, .ref aL, .int pe, .int 2, .long mi])), (aU, .inl (cJ, 19, .inr (.inl ru))), (aL, .inl (cJ, 19, .inr (.inl rl)))]) [0, 1, 2] (by decide) rfl
            exact W.lret (v := va * vb) hx hb hr (fun t ht hW => ⟨⟨va * vb, 2, rfl, ⟨by rw [hF], by rw [hF]⟩, by rw [ht]; exact hP9, hD9⟩, hS.F ht⟩) hS.2.2 d_Reckoner_product_71
        · have hF := hF.trans (if_pos c_4)
          refine lv_iconst (v := 1) hx hb d_Reckoner_product_52 (by decide) ?_
          refine lv_goto (tgt := 57) hx hb d_Reckoner_product_53 (by decide) ?_
          refine lv_istore (lv' := [(7, .int 1), (5, .long (va * vb)), (0, .ref oR), (1, .long va), (3, .long vb)]) hx hb d_Reckoner_product_57 hl (by decide) rfl (fun ls hl => ?_)
          refine lv_iload hx hb d_Reckoner_product_59 (lv_at hl 0 rfl) ?_
          refine lv_if_ne (tgt := 69) hx hb d_Reckoner_product_61 (by decide) (fun c_6 => ?_) (fun c_6 => ?_)
          · skip
            refine lv_lload hx hb d_Reckoner_product_69 (lv_at hl 1 rfl) ?_
            have hP9 := hP.sub (ws' := [(oR, .inr (4, [.ref aU, .ref aL, .int pe, .int wy, .long mi])), (aU, .inl (cJ, 19, .inr (.inl ru))), (aL, .inl (cJ, 19, .inr (.inl rl)))]) [0, 1, 2] rfl
            have hD9 := hD.sub (ws' := [(oR, .inr (4, [.ref aU, .ref aL, .int pe, .int wy, .long mi])), (aU, .inl (cJ, 19, .inr (.inl ru))), (aL, .inl (cJ, 19, .inr (.inl rl)))]) [0, 1, 2] (by decide) rfl
            exact W.lret (v := va * vb) hx hb hr (fun t ht hW => ⟨⟨va * vb, wy, rfl, ⟨by rw [hF], by rw [hF]⟩, by rw [ht]; exact hP9, hD9⟩, hS.F ht⟩) hS.2.2 d_Reckoner_product_71
          · exact absurd c_6 (by decide)
      · have hF := hF.trans (if_pos c_3)
        refine lv_lload_n hx hb d_Reckoner_product_27 rfl (lv_at hl 2 rfl) ?_
        refine lv_ldc2 (v := (-9223372036854775808)) hx hb hown (htb _ mb_560) d_Reckoner_product_28 ?_
        refine W.lcmp hx hb d_Reckoner_product_31 ?_
        refine lv_if_eq (tgt := 39) hx hb d_Reckoner_product_32 (by decide) (fun c_7 => ?_) (fun c_7 => ?_)
        · have hF := hF.trans (if_pos c_7)
          refine lv_iconst (v := 0) hx hb d_Reckoner_product_39 (by decide) ?_
          refine lv_goto (tgt := 57) hx hb d_Reckoner_product_40 (by decide) ?_
          refine lv_istore (lv' := [(7, .int 0), (5, .long (va * vb)), (0, .ref oR), (1, .long va), (3, .long vb)]) hx hb d_Reckoner_product_57 hl (by decide) rfl (fun ls hl => ?_)
          refine lv_iload hx hb d_Reckoner_product_59 (lv_at hl 0 rfl) ?_
          refine lv_if_ne (tgt := 69) hx hb d_Reckoner_product_61 (by decide) (fun c_8 => ?_) (fun c_8 => ?_)
          · exact absurd (by decide) c_8
          · skip
            refine lv_aload_n hx hb d_Reckoner_product_64 rfl (lv_at hl 2 rfl) ?_
            refine lv_iconst (v := 2) hx hb d_Reckoner_product_65 (by decide) ?_
            refine va_put (D := (dC, dI)) (ci := 4) (v := .int 2) (ty := .int) (C := "PermitRules$Reckoner") (T := T_Reckoner) (N := 5) hx hb htb in_Reckoner ty_Reckoner to_Reckoner nm_Reckoner hown hK hP hD hS 0 rfl rfl 3 (by decide) (htb _ mb_101) (fun _ h9 => h9) rfl (by decide +kernel) rfl rfl (Nat.le_of_ble_eq_true rfl) d_Reckoner_product_66 (fun H locs hP hD hS => ?_)
            have hP : va_P (dC, dI) vwCl [(oR, .inr (4, [.ref aU, .ref aL, .int pe, .int 2, .long mi])), (aU, .inl (cJ, 19, .inr (.inl ru))), (aL, .inl (cJ, 19, .inr (.inl rl)))] H := hP
            have hD : va_D A [(oR, .inr (4, [.ref aU, .ref aL, .int pe, .int 2, .long mi])), (aU, .inl (cJ, 19, .inr (.inl ru))), (aL, .inl (cJ, 19, .inr (.inl rl)))] := hD
            refine lv_lload hx hb d_Reckoner_product_69 (lv_at hl 1 rfl) ?_
            have hP9 := hP.sub (ws' := [(oR, .inr (4, [.ref aU, .ref aL, .int pe, .int 2, .long mi])), (aU, .inl (cJ, 19, .inr (.inl ru))), (aL, .inl (cJ, 19, .inr (.inl rl)))]) [0, 1, 2] rfl
            have hD9 := hD.sub (ws' := [(oR, .inr (4, [.ref aU, .ref aL, .int pe, .int 2, .long mi])), (aU, .inl (cJ, 19, .inr (.inl ru))), (aL, .inl (cJ, 19, .inr (.inl rl)))]) [0, 1, 2] (by decide) rfl
            exact W.lret (v := va * vb) hx hb hr (fun t ht hW => ⟨⟨va * vb, 2, rfl, ⟨by rw [hF], by rw [hF]⟩, by rw [ht]; exact hP9, hD9⟩, hS.F ht⟩) hS.2.2 d_Reckoner_product_71
        · have hF := hF.trans (if_neg c_7)
          refine lv_iconst (v := 1) hx hb d_Reckoner_product_35 (by decide) ?_
          refine lv_goto (tgt := 57) hx hb d_Reckoner_product_36 (by decide) ?_
          refine lv_istore (lv' := [(7, .int 1), (5, .long (va * vb)), (0, .ref oR), (1, .long va), (3, .long vb)]) hx hb d_Reckoner_product_57 hl (by decide) rfl (fun ls hl => ?_)
          refine lv_iload hx hb d_Reckoner_product_59 (lv_at hl 0 rfl) ?_
          refine lv_if_ne (tgt := 69) hx hb d_Reckoner_product_61 (by decide) (fun c_9 => ?_) (fun c_9 => ?_)
          · skip
            refine lv_lload hx hb d_Reckoner_product_69 (lv_at hl 1 rfl) ?_
            have hP9 := hP.sub (ws' := [(oR, .inr (4, [.ref aU, .ref aL, .int pe, .int wy, .long mi])), (aU, .inl (cJ, 19, .inr (.inl ru))), (aL, .inl (cJ, 19, .inr (.inl rl)))]) [0, 1, 2] rfl
            have hD9 := hD.sub (ws' := [(oR, .inr (4, [.ref aU, .ref aL, .int pe, .int wy, .long mi])), (aU, .inl (cJ, 19, .inr (.inl ru))), (aL, .inl (cJ, 19, .inr (.inl rl)))]) [0, 1, 2] (by decide) rfl
            exact W.lret (v := va * vb) hx hb hr (fun t ht hW => ⟨⟨va * vb, wy, rfl, ⟨by rw [hF], by rw [hF]⟩, by rw [ht]; exact hP9, hD9⟩, hS.F ht⟩) hS.2.2 d_Reckoner_product_71
          · exact absurd c_9 (by decide)
    · have hF := hF.trans (if_pos c_2)
      refine lv_lconst (v := 0) hx hb d_Reckoner_product_12 (by decide) ?_
      have hP9 := hP.sub (ws' := [(oR, .inr (4, [.ref aU, .ref aL, .int pe, .int wy, .long mi])), (aU, .inl (cJ, 19, .inr (.inl ru))), (aL, .inl (cJ, 19, .inr (.inl rl)))]) [0, 1, 2] rfl
      have hD9 := hD.sub (ws' := [(oR, .inr (4, [.ref aU, .ref aL, .int pe, .int wy, .long mi])), (aU, .inl (cJ, 19, .inr (.inl ru))), (aL, .inl (cJ, 19, .inr (.inl rl)))]) [0, 1, 2] (by decide) rfl
      exact W.lret (v := (0 : Int64)) hx hb hr (fun t ht hW => ⟨⟨(0 : Int64), wy, rfl, ⟨by rw [hF], by rw [hF]⟩, by rw [ht]; exact hP9, hD9⟩, hS.F ht⟩) hS.2.2 d_Reckoner_product_13
def f_Reckoner_sum (va : Int64) (vb : Int64) (wy : Int32) : Int64 × Int32 := (if 0 ≤ (lg_cmp ((va ^^^ (va + vb)) &&& (vb ^^^ (va + vb))) 0) then (va + vb, wy) else (va + vb, 2))
abbrev q_Reckoner_sum (dC : Nat → ClassId) (dI : Nat → Nat → Nat) (cB cI cJ : ClassId) (oR aU aL : Nat) (va : Int64) (vb : Int64) (pe : Int32) (wy : Int32) (mi : Int64) (ru : (Nat → Int64)) (rl : (Nat → Int64)) (A : Nat → Prop) : Array Value → State → Outcome → State → Prop := va_Ql (fun (r : Int64) (u : Int32) => r = (f_Reckoner_sum va vb wy).1 ∧ u = (f_Reckoner_sum va vb wy).2) (fun u t => va_P (dC, dI) vwCl [(oR, .inr (4, [.ref aU, .ref aL, .int pe, .int u, .long mi])), (aU, .inl (cJ, 19, .inr (.inl ru))), (aL, .inl (cJ, 19, .inr (.inl rl)))] t.heap ∧ va_D A [(oR, .inr (4, [.ref aU, .ref aL, .int pe, .int u, .long mi])), (aU, .inl (cJ, 19, .inr (.inl ru))), (aL, .inl (cJ, 19, .inr (.inl rl)))]) A
set_option maxHeartbeats 4000000 in
set_option maxRecDepth 100000 in
theorem c_Reckoner_sum (l : Launch) (dC : Nat → ClassId) (dI : Nat → Nat → Nat) (cB cI cJ : ClassId) (oR aU aL : Nat) (sz : Nat) (va : Int64) (vb : Int64) (pe : Int32) (wy : Int32) (mi : Int64) (ru : (Nat → Int64)) (rl : (Nat → Int64)) : Met l y_Reckoner_sum (cw_Reckoner_sum :: bgw) { frames := 0, cells := 0, slots := 0, locals := 0 } (va_Pc [.ref oR, .long va, .long vb] (kb_B dC dI cB cI cJ [(oR, .inr (4, [.ref aU, .ref aL, .int pe, .int wy, .long mi])), (aU, .inl (cJ, 19, .inr (.inl ru))), (aL, .inl (cJ, 19, .inr (.inl rl)))] sz)) (q_Reckoner_sum dC dI cB cI cJ oR aU aL va vb pe wy mi ru rl (va_A [(oR, .inr (4, [.ref aU, .ref aL, .int pe, .int wy, .long mi])), (aU, .inl (cJ, 19, .inr (.inl ru))), (aL, .inl (cJ, 19, .inr (.inl rl)))] sz)) 0 0 (va_A [(oR, .inr (4, [.ref aU, .ref aL, .int pe, .int wy, .long mi])), (aU, .inl (cJ, 19, .inr (.inl ru))), (aL, .inl (cJ, 19, .inr (.inl rl)))] sz) := by
  refine Met.ofW (cc := prog_6_method_7_code) (maxL := 7) (ret := (some .long)) (by decide) rfl ?_
  intro p e s m args below meth c s₁ B hml hv
  obtain ⟨rfl, hsz, hP, hKx, hD0⟩ := hv
  have hx := B.exec
  have hb := B.bytes
  have hr := B.returns
  have hts := atoms_spec (ws := (cw_Reckoner_sum :: bgw)) B.pre
  have hown : s.vm.findClass "PermitRules$Reckoner" = some m.cls := findClass_of_methodNamed B.named
  have hlocks := B.notSynchronized
  have htb := fun (w : Cond) (h : w ∈ bgw) => hts w (List.mem_cons_of_mem _ h)
  have hK := hKx.1
  subst hsz
  have hD := hD0.self (sz := s.heap.size)
  generalize hAe : va_A [(oR, .inr (4, [.ref aU, .ref aL, .int pe, .int wy, .long mi])), (aU, .inl (cJ, 19, .inr (.inl ru))), (aL, .inl (cJ, 19, .inr (.inl rl)))] s.heap.size = A at hD ⊢
  have hA : ∀ q : Nat, s.heap.size ≤ q → A q := fun q h => by rw [← hAe]; exact Or.inr h
  have hS : va_S A s.heap s.heap [] := va_S.rf
  have hl := lv_entry ([.ref oR, .long va, .long vb]) (n := 7) (Nat.le_of_ble_eq_true rfl)
  rw [lg_entry_eq]
  generalize (lg_sl ([.ref oR, .long va, .long vb]) ++ List.replicate (7 - (lg_sl ([.ref oR, .long va, .long vb])).length) Slot.unset).toArray = ls at hl ⊢
  have hl : lv_has ls 7 [(0, .ref oR), (1, .long va), (3, .long vb)] := hl
  have hP : va_P (dC, dI) vwCl [(oR, .inr (4, [.ref aU, .ref aL, .int pe, .int wy, .long mi])), (aU, .inl (cJ, 19, .inr (.inl ru))), (aL, .inl (cJ, 19, .inr (.inl rl)))] s.heap := hP
  have hF : f_Reckoner_sum va vb wy = (if 0 ≤ (lg_cmp ((va ^^^ (va + vb)) &&& (vb ^^^ (va + vb))) 0) then (va + vb, wy) else (va + vb, 2)) := rfl
  refine lv_lload_n hx hb d_Reckoner_sum_0 rfl (lv_at hl 1 rfl) ?_
  refine lv_lload_n hx hb d_Reckoner_sum_1 rfl (lv_at hl 2 rfl) ?_
  refine lv_ladd hx hb d_Reckoner_sum_2 ?_
  refine lv_lstore (lv' := [(5, .long (va + vb)), (0, .ref oR), (1, .long va), (3, .long vb)]) hx hb d_Reckoner_sum_3 hl (by decide) rfl (fun ls hl => ?_)
  refine lv_lload_n hx hb d_Reckoner_sum_5 rfl (lv_at hl 2 rfl) ?_
  refine lv_lload hx hb d_Reckoner_sum_6 (lv_at hl 0 rfl) ?_
  refine lv_lxor hx hb d_Reckoner_sum_8 ?_
  refine lv_lload_n hx hb d_Reckoner_sum_9 rfl (lv_at hl 3 rfl) ?_
  refine lv_lload hx hb d_Reckoner_sum_10 (lv_at hl 0 rfl) ?_
  refine lv_lxor hx hb d_Reckoner_sum_12 ?_
  refine lv_land hx hb d_Reckoner_sum_13 ?_
  refine lv_lconst (v := 0) hx hb d_Reckoner_sum_14 (by decide) ?_
  refine W.lcmp hx hb d_Reckoner_sum_15 ?_
  refine lv_if_ge (tgt := 24) hx hb d_Reckoner_sum_16 (by decide) (fun c_1 => ?_) (fun c_1 => ?_)
  · have hF := hF.trans (if_pos c_1)
    refine lv_lload hx hb d_Reckoner_sum_24 (lv_at hl 0 rfl) ?_
    have hP9 := hP.sub (ws' := [(oR, .inr (4, [.ref aU, .ref aL, .int pe, .int wy, .long mi])), (aU, .inl (cJ, 19, .inr (.inl ru))), (aL, .inl (cJ, 19, .inr (.inl rl)))]) [0, 1, 2] rfl
    have hD9 := hD.sub (ws' := [(oR, .inr (4, [.ref aU, .ref aL, .int pe, .int wy, .long mi])), (aU, .inl (cJ, 19, .inr (.inl ru))), (aL, .inl (cJ, 19, .inr (.inl rl)))]) [0, 1, 2] (by decide) rfl
    exact W.lret (v := va + vb) hx hb hr (fun t ht hW => ⟨⟨va + vb, wy, rfl, ⟨by rw [hF], by rw [hF]⟩, by rw [ht]; exact hP9, hD9⟩, hS.F ht⟩) hS.2.2 d_Reckoner_sum_26
  · have hF := hF.trans (if_neg c_1)
    refine lv_aload_n hx hb d_Reckoner_sum_19 rfl (lv_at hl 1 rfl) ?_
    refine lv_iconst (v := 2) hx hb d_Reckoner_sum_20 (by decide) ?_
    refine va_put (D := (dC, dI)) (ci := 4) (v := .int 2) (ty := .int) (C := "PermitRules$Reckoner") (T := T_Reckoner) (N := 5) hx hb htb in_Reckoner ty_Reckoner to_Reckoner nm_Reckoner hown hK hP hD hS 0 rfl rfl 3 (by decide) (htb _ mb_101) (fun _ h9 => h9) rfl (by decide +kernel) rfl rfl (Nat.le_of_ble_eq_true rfl) d_Reckoner_sum_21 (fun H locs hP hD hS => ?_)
    have hP : va_P (dC, dI) vwCl [(oR, .inr (4, [.ref aU, .ref aL, .int pe, .int 2, .long mi])), (aU, .inl (cJ, 19, .inr (.inl ru))), (aL, .inl (cJ, 19, .inr (.inl rl)))] H := hP
    have hD : va_D A [(oR, .inr (4, [.ref aU, .ref aL, .int pe, .int 2, .long mi])), (aU, .inl (cJ, 19, .inr (.inl ru))), (aL, .inl (cJ, 19, .inr (.inl rl)))] := hD
    refine lv_lload hx hb d_Reckoner_sum_24 (lv_at hl 0 rfl) ?_
    have hP9 := hP.sub (ws' := [(oR, .inr (4, [.ref aU, .ref aL, .int pe, .int 2, .long mi])), (aU, .inl (cJ, 19, .inr (.inl ru))), (aL, .inl (cJ, 19, .inr (.inl rl)))]) [0, 1, 2] rfl
    have hD9 := hD.sub (ws' := [(oR, .inr (4, [.ref aU, .ref aL, .int pe, .int 2, .long mi])), (aU, .inl (cJ, 19, .inr (.inl ru))), (aL, .inl (cJ, 19, .inr (.inl rl)))]) [0, 1, 2] (by decide) rfl
    exact W.lret (v := va + vb) hx hb hr (fun t ht hW => ⟨⟨va + vb, 2, rfl, ⟨by rw [hF], by rw [hF]⟩, by rw [ht]; exact hP9, hD9⟩, hS.F ht⟩) hS.2.2 d_Reckoner_sum_26
def f_Reckoner_difference (va : Int64) (vb : Int64) (wy : Int32) : Int64 × Int32 := (if 0 ≤ (lg_cmp ((va ^^^ vb) &&& (va ^^^ (va - vb))) 0) then (va - vb, wy) else (va - vb, 2))
abbrev q_Reckoner_difference (dC : Nat → ClassId) (dI : Nat → Nat → Nat) (cB cI cJ : ClassId) (oR aU aL : Nat) (va : Int64) (vb : Int64) (pe : Int32) (wy : Int32) (mi : Int64) (ru : (Nat → Int64)) (rl : (Nat → Int64)) (A : Nat → Prop) : Array Value → State → Outcome → State → Prop := va_Ql (fun (r : Int64) (u : Int32) => r = (f_Reckoner_difference va vb wy).1 ∧ u = (f_Reckoner_difference va vb wy).2) (fun u t => va_P (dC, dI) vwCl [(oR, .inr (4, [.ref aU, .ref aL, .int pe, .int u, .long mi])), (aU, .inl (cJ, 19, .inr (.inl ru))), (aL, .inl (cJ, 19, .inr (.inl rl)))] t.heap ∧ va_D A [(oR, .inr (4, [.ref aU, .ref aL, .int pe, .int u, .long mi])), (aU, .inl (cJ, 19, .inr (.inl ru))), (aL, .inl (cJ, 19, .inr (.inl rl)))]) A
set_option maxHeartbeats 4000000 in
set_option maxRecDepth 100000 in
theorem c_Reckoner_difference (l : Launch) (dC : Nat → ClassId) (dI : Nat → Nat → Nat) (cB cI cJ : ClassId) (oR aU aL : Nat) (sz : Nat) (va : Int64) (vb : Int64) (pe : Int32) (wy : Int32) (mi : Int64) (ru : (Nat → Int64)) (rl : (Nat → Int64)) : Met l y_Reckoner_difference (cw_Reckoner_difference :: bgw) { frames := 0, cells := 0, slots := 0, locals := 0 } (va_Pc [.ref oR, .long va, .long vb] (kb_B dC dI cB cI cJ [(oR, .inr (4, [.ref aU, .ref aL, .int pe, .int wy, .long mi])), (aU, .inl (cJ, 19, .inr (.inl ru))), (aL, .inl (cJ, 19, .inr (.inl rl)))] sz)) (q_Reckoner_difference dC dI cB cI cJ oR aU aL va vb pe wy mi ru rl (va_A [(oR, .inr (4, [.ref aU, .ref aL, .int pe, .int wy, .long mi])), (aU, .inl (cJ, 19, .inr (.inl ru))), (aL, .inl (cJ, 19, .inr (.inl rl)))] sz)) 0 0 (va_A [(oR, .inr (4, [.ref aU, .ref aL, .int pe, .int wy, .long mi])), (aU, .inl (cJ, 19, .inr (.inl ru))), (aL, .inl (cJ, 19, .inr (.inl rl)))] sz) := by
  refine Met.ofW (cc := prog_6_method_8_code) (maxL := 7) (ret := (some .long)) (by decide) rfl ?_
  intro p e s m args below meth c s₁ B hml hv
  obtain ⟨rfl, hsz, hP, hKx, hD0⟩ := hv
  have hx := B.exec
  have hb := B.bytes
  have hr := B.returns
  have hts := atoms_spec (ws := (cw_Reckoner_difference :: bgw)) B.pre
  have hown : s.vm.findClass "PermitRules$Reckoner" = some m.cls := findClass_of_methodNamed B.named
  have hlocks := B.notSynchronized
  have htb := fun (w : Cond) (h : w ∈ bgw) => hts w (List.mem_cons_of_mem _ h)
  have hK := hKx.1
  subst hsz
  have hD := hD0.self (sz := s.heap.size)
  generalize hAe : va_A [(oR, .inr (4, [.ref aU, .ref aL, .int pe, .int wy, .long mi])), (aU, .inl (cJ, 19, .inr (.inl ru))), (aL, .inl (cJ, 19, .inr (.inl rl)))] s.heap.size = A at hD ⊢
  have hA : ∀ q : Nat, s.heap.size ≤ q → A q := fun q h => by rw [← hAe]; exact Or.inr h
  have hS : va_S A s.heap s.heap [] := va_S.rf
  have hl := lv_entry ([.ref oR, .long va, .long vb]) (n := 7) (Nat.le_of_ble_eq_true rfl)
  rw [lg_entry_eq]
  generalize (lg_sl ([.ref oR, .long va, .long vb]) ++ List.replicate (7 - (lg_sl ([.ref oR, .long va, .long vb])).length) Slot.unset).toArray = ls at hl ⊢
  have hl : lv_has ls 7 [(0, .ref oR), (1, .long va), (3, .long vb)] := hl
  have hP : va_P (dC, dI) vwCl [(oR, .inr (4, [.ref aU, .ref aL, .int pe, .int wy, .long mi])), (aU, .inl (cJ, 19, .inr (.inl ru))), (aL, .inl (cJ, 19, .inr (.inl rl)))] s.heap := hP
  have hF : f_Reckoner_difference va vb wy = (if 0 ≤ (lg_cmp ((va ^^^ vb) &&& (va ^^^ (va - vb))) 0) then (va - vb, wy) else (va - vb, 2)) := rfl
  refine lv_lload_n hx hb d_Reckoner_difference_0 rfl (lv_at hl 1 rfl) ?_
  refine lv_lload_n hx hb d_Reckoner_difference_1 rfl (lv_at hl 2 rfl) ?_
  refine lv_lsub hx hb d_Reckoner_difference_2 ?_
  refine lv_lstore (lv' := [(5, .long (va - vb)), (0, .ref oR), (1, .long va), (3, .long vb)]) hx hb d_Reckoner_difference_3 hl (by decide) rfl (fun ls hl => ?_)
  refine lv_lload_n hx hb d_Reckoner_difference_5 rfl (lv_at hl 2 rfl) ?_
  refine lv_lload_n hx hb d_Reckoner_difference_6 rfl (lv_at hl 3 rfl) ?_
  refine lv_lxor hx hb d_Reckoner_difference_7 ?_
  refine lv_lload_n hx hb d_Reckoner_difference_8 rfl (lv_at hl 2 rfl) ?_
  refine lv_lload hx hb d_Reckoner_difference_9 (lv_at hl 0 rfl) ?_
  refine lv_lxor hx hb d_Reckoner_difference_11 ?_
  refine lv_land hx hb d_Reckoner_difference_12 ?_
  refine lv_lconst (v := 0) hx hb d_Reckoner_difference_13 (by decide) ?_
  refine W.lcmp hx hb d_Reckoner_difference_14 ?_
  refine lv_if_ge (tgt := 23) hx hb d_Reckoner_difference_15 (by decide) (fun c_1 => ?_) (fun c_1 => ?_)
  · have hF := hF.trans (if_pos c_1)
    refine lv_lload hx hb d_Reckoner_difference_23 (lv_at hl 0 rfl) ?_
    have hP9 := hP.sub (ws' := [(oR, .inr (4, [.ref aU, .ref aL, .int pe, .int wy, .long mi])), (aU, .inl (cJ, 19, .inr (.inl ru))), (aL, .inl (cJ, 19, .inr (.inl rl)))]) [0, 1, 2] rfl
    have hD9 := hD.sub (ws' := [(oR, .inr (4, [.ref aU, .ref aL, .int pe, .int wy, .long mi])), (aU, .inl (cJ, 19, .inr (.inl ru))), (aL, .inl (cJ, 19, .inr (.inl rl)))]) [0, 1, 2] (by decide) rfl
    exact W.lret (v := va - vb) hx hb hr (fun t ht hW => ⟨⟨va - vb, wy, rfl, ⟨by rw [hF], by rw [hF]⟩, by rw [ht]; exact hP9, hD9⟩, hS.F ht⟩) hS.2.2 d_Reckoner_difference_25
  · have hF := hF.trans (if_neg c_1)
    refine lv_aload_n hx hb d_Reckoner_difference_18 rfl (lv_at hl 1 rfl) ?_
    refine lv_iconst (v := 2) hx hb d_Reckoner_difference_19 (by decide) ?_
    refine va_put (D := (dC, dI)) (ci := 4) (v := .int 2) (ty := .int) (C := "PermitRules$Reckoner") (T := T_Reckoner) (N := 5) hx hb htb in_Reckoner ty_Reckoner to_Reckoner nm_Reckoner hown hK hP hD hS 0 rfl rfl 3 (by decide) (htb _ mb_101) (fun _ h9 => h9) rfl (by decide +kernel) rfl rfl (Nat.le_of_ble_eq_true rfl) d_Reckoner_difference_20 (fun H locs hP hD hS => ?_)
    have hP : va_P (dC, dI) vwCl [(oR, .inr (4, [.ref aU, .ref aL, .int pe, .int 2, .long mi])), (aU, .inl (cJ, 19, .inr (.inl ru))), (aL, .inl (cJ, 19, .inr (.inl rl)))] H := hP
    have hD : va_D A [(oR, .inr (4, [.ref aU, .ref aL, .int pe, .int 2, .long mi])), (aU, .inl (cJ, 19, .inr (.inl ru))), (aL, .inl (cJ, 19, .inr (.inl rl)))] := hD
    refine lv_lload hx hb d_Reckoner_difference_23 (lv_at hl 0 rfl) ?_
    have hP9 := hP.sub (ws' := [(oR, .inr (4, [.ref aU, .ref aL, .int pe, .int 2, .long mi])), (aU, .inl (cJ, 19, .inr (.inl ru))), (aL, .inl (cJ, 19, .inr (.inl rl)))]) [0, 1, 2] rfl
    have hD9 := hD.sub (ws' := [(oR, .inr (4, [.ref aU, .ref aL, .int pe, .int 2, .long mi])), (aU, .inl (cJ, 19, .inr (.inl ru))), (aL, .inl (cJ, 19, .inr (.inl rl)))]) [0, 1, 2] (by decide) rfl
    exact W.lret (v := va - vb) hx hb hr (fun t ht hW => ⟨⟨va - vb, 2, rfl, ⟨by rw [hF], by rw [hF]⟩, by rw [ht]; exact hP9, hD9⟩, hS.F ht⟩) hS.2.2 d_Reckoner_difference_25
def f_Reckoner_push (va : Int64) (vb : Int64) (pe : Int32) (ru : (Nat → Int64)) (rl : (Nat → Int64)) : Int32 × (Nat → Int64) × (Nat → Int64) := (if pe < 0 then (pe, ru, rl) else (if 19 ≤ pe then (pe, ru, rl) else (if 19 ≤ pe then (pe, ru, rl) else (pe + 1, vp_updL ru pe.toNatClampNeg va, vp_updL rl pe.toNatClampNeg vb))))
abbrev q_Reckoner_push (dC : Nat → ClassId) (dI : Nat → Nat → Nat) (cB cI cJ : ClassId) (oR aU aL : Nat) (va : Int64) (vb : Int64) (pe : Int32) (wy : Int32) (mi : Int64) (ru : (Nat → Int64)) (rl : (Nat → Int64)) (A : Nat → Prop) : Array Value → State → Outcome → State → Prop := va_Qv (fun u : Int32 × (Nat → Int64) × (Nat → Int64) => u = f_Reckoner_push va vb pe ru rl) (fun u t => va_P (dC, dI) vwCl [(oR, .inr (4, [.ref aU, .ref aL, .int u.1, .int wy, .long mi])), (aU, .inl (cJ, 19, .inr (.inl u.2.1))), (aL, .inl (cJ, 19, .inr (.inl u.2.2)))] t.heap ∧ va_D A [(oR, .inr (4, [.ref aU, .ref aL, .int u.1, .int wy, .long mi])), (aU, .inl (cJ, 19, .inr (.inl u.2.1))), (aL, .inl (cJ, 19, .inr (.inl u.2.2)))]) A
set_option maxHeartbeats 4000000 in
set_option maxRecDepth 100000 in
theorem c_Reckoner_push (l : Launch) (dC : Nat → ClassId) (dI : Nat → Nat → Nat) (cB cI cJ : ClassId) (oR aU aL : Nat) (sz : Nat) (va : Int64) (vb : Int64) (pe : Int32) (wy : Int32) (mi : Int64) (ru : (Nat → Int64)) (rl : (Nat → Int64)) : Met l y_Reckoner_push (cw_Reckoner_push :: bgw) { frames := 0, cells := 0, slots := 0, locals := 0 } (va_Pc [.ref oR, .long va, .long vb] (kb_B dC dI cB cI cJ [(oR, .inr (4, [.ref aU, .ref aL, .int pe, .int wy, .long mi])), (aU, .inl (cJ, 19, .inr (.inl ru))), (aL, .inl (cJ, 19, .inr (.inl rl)))] sz)) (q_Reckoner_push dC dI cB cI cJ oR aU aL va vb pe wy mi ru rl (va_A [(oR, .inr (4, [.ref aU, .ref aL, .int pe, .int wy, .long mi])), (aU, .inl (cJ, 19, .inr (.inl ru))), (aL, .inl (cJ, 19, .inr (.inl rl)))] sz)) 0 0 (va_A [(oR, .inr (4, [.ref aU, .ref aL, .int pe, .int wy, .long mi])), (aU, .inl (cJ, 19, .inr (.inl ru))), (aL, .inl (cJ, 19, .inr (.inl rl)))] sz) := by
  refine Met.ofW (cc := prog_6_method_9_code) (maxL := 5) (ret := none) (by decide) rfl ?_
  intro p e s m args below meth c s₁ B hml hv
  obtain ⟨rfl, hsz, hP, hKx, hD0⟩ := hv
  have hx := B.exec
  have hb := B.bytes
  have hr := B.returns
  have hts := atoms_spec (ws := (cw_Reckoner_push :: bgw)) B.pre
  have hown : s.vm.findClass "PermitRules$Reckoner" = some m.cls := findClass_of_methodNamed B.named
  have hlocks := B.notSynchronized
  have htb := fun (w : Cond) (h : w ∈ bgw) => hts w (List.mem_cons_of_mem _ h)
  have hK := hKx.1
  subst hsz
  have hD := hD0.self (sz := s.heap.size)
  generalize hAe : va_A [(oR, .inr (4, [.ref aU, .ref aL, .int pe, .int wy, .long mi])), (aU, .inl (cJ, 19, .inr (.inl ru))), (aL, .inl (cJ, 19, .inr (.inl rl)))] s.heap.size = A at hD ⊢
  have hA : ∀ q : Nat, s.heap.size ≤ q → A q := fun q h => by rw [← hAe]; exact Or.inr h
  have hS : va_S A s.heap s.heap [] := va_S.rf
  have hl := lv_entry ([.ref oR, .long va, .long vb]) (n := 5) (Nat.le_of_ble_eq_true rfl)
  rw [lg_entry_eq]
  generalize (lg_sl ([.ref oR, .long va, .long vb]) ++ List.replicate (5 - (lg_sl ([.ref oR, .long va, .long vb])).length) Slot.unset).toArray = ls at hl ⊢
  have hl : lv_has ls 5 [(0, .ref oR), (1, .long va), (3, .long vb)] := hl
  have hP : va_P (dC, dI) vwCl [(oR, .inr (4, [.ref aU, .ref aL, .int pe, .int wy, .long mi])), (aU, .inl (cJ, 19, .inr (.inl ru))), (aL, .inl (cJ, 19, .inr (.inl rl)))] s.heap := hP
  have hF : f_Reckoner_push va vb pe ru rl = (if pe < 0 then (pe, ru, rl) else (if 19 ≤ pe then (pe, ru, rl) else (if 19 ≤ pe then (pe, ru, rl) else (pe + 1, vp_updL ru pe.toNatClampNeg va, vp_updL rl pe.toNatClampNeg vb)))) := rfl
  refine lv_aload_n hx hb d_Reckoner_push_0 rfl (lv_at hl 0 rfl) ?_
  refine va_get (D := (dC, dI)) (ci := 4) (v := .int pe) (C := "PermitRules$Reckoner") (T := T_Reckoner) (N := 5) hx hb htb in_Reckoner hown hK hP 0 rfl rfl 2 (by decide) (htb _ mb_100) (fun _ h9 => h9) rfl d_Reckoner_push_1 ?_
  refine lv_if_lt (tgt := 61) hx hb d_Reckoner_push_4 (by decide) (fun c_1 => ?_) (fun c_1 => ?_)
  · have hF := hF.trans (if_pos c_1)
    have hP9 := hP.sub (ws' := [(oR, .inr (4, [.ref aU, .ref aL, .int pe, .int wy, .long mi])), (aU, .inl (cJ, 19, .inr (.inl ru))), (aL, .inl (cJ, 19, .inr (.inl rl)))]) [0, 1, 2] rfl
    have hD9 := hD.sub (ws' := [(oR, .inr (4, [.ref aU, .ref aL, .int pe, .int wy, .long mi])), (aU, .inl (cJ, 19, .inr (.inl ru))), (aL, .inl (cJ, 19, .inr (.inl rl)))]) [0, 1, 2] (by decide) rfl
    exact W.vret hx hb hr (fun t ht hW => ⟨⟨(pe, ru, rl), rfl, by rw [hF], by rw [ht]; exact hP9, hD9⟩, hS.F ht⟩) hS.2.2 d_Reckoner_push_61
  · have hF := hF.trans (if_neg c_1)
    refine lv_aload_n hx hb d_Reckoner_push_7 rfl (lv_at hl 0 rfl) ?_
    refine va_get (D := (dC, dI)) (ci := 4) (v := .int pe) (C := "PermitRules$Reckoner") (T := T_Reckoner) (N := 5) hx hb htb in_Reckoner hown hK hP 0 rfl rfl 2 (by decide) (htb _ mb_100) (fun _ h9 => h9) rfl d_Reckoner_push_8 ?_
    refine lv_aload_n hx hb d_Reckoner_push_11 rfl (lv_at hl 0 rfl) ?_
    refine va_get (D := (dC, dI)) (ci := 4) (v := .ref aU) (C := "PermitRules$Reckoner") (T := T_Reckoner) (N := 5) hx hb htb in_Reckoner hown hK hP 0 rfl rfl 0 (by decide) (htb _ mb_98) (fun _ h9 => h9) rfl d_Reckoner_push_12 ?_
    refine va_alen (v := 19) hx hb hK hP 1 2 rfl rfl (by rfl) d_Reckoner_push_15 ?_
    refine lv_icmp_ge (tgt := 61) hx hb d_Reckoner_push_16 (by decide) (fun c_2 => ?_) (fun c_2 => ?_)
    · have hF := hF.trans (if_pos c_2)
      have hP9 := hP.sub (ws' := [(oR, .inr (4, [.ref aU, .ref aL, .int pe, .int wy, .long mi])), (aU, .inl (cJ, 19, .inr (.inl ru))), (aL, .inl (cJ, 19, .inr (.inl rl)))]) [0, 1, 2] rfl
      have hD9 := hD.sub (ws' := [(oR, .inr (4, [.ref aU, .ref aL, .int pe, .int wy, .long mi])), (aU, .inl (cJ, 19, .inr (.inl ru))), (aL, .inl (cJ, 19, .inr (.inl rl)))]) [0, 1, 2] (by decide) rfl
      exact W.vret hx hb hr (fun t ht hW => ⟨⟨(pe, ru, rl), rfl, by rw [hF], by rw [ht]; exact hP9, hD9⟩, hS.F ht⟩) hS.2.2 d_Reckoner_push_61
    · have hF := hF.trans (if_neg c_2)
      refine lv_aload_n hx hb d_Reckoner_push_19 rfl (lv_at hl 0 rfl) ?_
      refine va_get (D := (dC, dI)) (ci := 4) (v := .int pe) (C := "PermitRules$Reckoner") (T := T_Reckoner) (N := 5) hx hb htb in_Reckoner hown hK hP 0 rfl rfl 2 (by decide) (htb _ mb_100) (fun _ h9 => h9) rfl d_Reckoner_push_20 ?_
      refine lv_aload_n hx hb d_Reckoner_push_23 rfl (lv_at hl 0 rfl) ?_
      refine va_get (D := (dC, dI)) (ci := 4) (v := .ref aL) (C := "PermitRules$Reckoner") (T := T_Reckoner) (N := 5) hx hb htb in_Reckoner hown hK hP 0 rfl rfl 1 (by decide) (htb _ mb_99) (fun _ h9 => h9) rfl d_Reckoner_push_24 ?_
      refine va_alen (v := 19) hx hb hK hP 2 2 rfl rfl (by rfl) d_Reckoner_push_27 ?_
      refine lv_icmp_ge (tgt := 61) hx hb d_Reckoner_push_28 (by decide) (fun c_3 => ?_) (fun c_3 => ?_)
      · have hF := hF.trans (if_pos c_3)
        have hP9 := hP.sub (ws' := [(oR, .inr (4, [.ref aU, .ref aL, .int pe, .int wy, .long mi])), (aU, .inl (cJ, 19, .inr (.inl ru))), (aL, .inl (cJ, 19, .inr (.inl rl)))]) [0, 1, 2] rfl
        have hD9 := hD.sub (ws' := [(oR, .inr (4, [.ref aU, .ref aL, .int pe, .int wy, .long mi])), (aU, .inl (cJ, 19, .inr (.inl ru))), (aL, .inl (cJ, 19, .inr (.inl rl)))]) [0, 1, 2] (by decide) rfl
        exact W.vret hx hb hr (fun t ht hW => ⟨⟨(pe, ru, rl), rfl, by rw [hF], by rw [ht]; exact hP9, hD9⟩, hS.F ht⟩) hS.2.2 d_Reckoner_push_61
      · have hF := hF.trans (if_neg c_3)
        refine lv_aload_n hx hb d_Reckoner_push_31 rfl (lv_at hl 0 rfl) ?_
        refine va_get (D := (dC, dI)) (ci := 4) (v := .ref aU) (C := "PermitRules$Reckoner") (T := T_Reckoner) (N := 5) hx hb htb in_Reckoner hown hK hP 0 rfl rfl 0 (by decide) (htb _ mb_98) (fun _ h9 => h9) rfl d_Reckoner_push_32 ?_
        refine lv_aload_n hx hb d_Reckoner_push_35 rfl (lv_at hl 0 rfl) ?_
        refine va_get (D := (dC, dI)) (ci := 4) (v := .int pe) (C := "PermitRules$Reckoner") (T := T_Reckoner) (N := 5) hx hb htb in_Reckoner hown hK hP 0 rfl rfl 2 (by decide) (htb _ mb_100) (fun _ h9 => h9) rfl d_Reckoner_push_36 ?_
        refine lv_lload_n hx hb d_Reckoner_push_39 rfl (lv_at hl 1 rfl) ?_
        refine va_last hx hb hK hP hD hS 1 2 rfl rfl (oi_in (N := 19) (by decide) c_1 c_3) d_Reckoner_push_40 (fun H locs hP hD hS => ?_)
        have hP : va_P (dC, dI) vwCl [(oR, .inr (4, [.ref aU, .ref aL, .int pe, .int wy, .long mi])), (aU, .inl (cJ, 19, .inr (.inl (vp_updL ru pe.toNatClampNeg va)))), (aL, .inl (cJ, 19, .inr (.inl rl)))] H := hP
        have hD : va_D A [(oR, .inr (4, [.ref aU, .ref aL, .int pe, .int wy, .long mi])), (aU, .inl (cJ, 19, .inr (.inl (vp_updL ru pe.toNatClampNeg va)))), (aL, .inl (cJ, 19, .inr (.inl rl)))] := hD
        refine lv_aload_n hx hb d_Reckoner_push_41 rfl (lv_at hl 0 rfl) ?_
        refine va_get (D := (dC, dI)) (ci := 4) (v := .ref aL) (C := "PermitRules$Reckoner") (T := T_Reckoner) (N := 5) hx hb htb in_Reckoner hown hK hP 0 rfl rfl 1 (by decide) (htb _ mb_99) (fun _ h9 => h9) rfl d_Reckoner_push_42 ?_
        refine lv_aload_n hx hb d_Reckoner_push_45 rfl (lv_at hl 0 rfl) ?_
        refine va_get (D := (dC, dI)) (ci := 4) (v := .int pe) (C := "PermitRules$Reckoner") (T := T_Reckoner) (N := 5) hx hb htb in_Reckoner hown hK hP 0 rfl rfl 2 (by decide) (htb _ mb_100) (fun _ h9 => h9) rfl d_Reckoner_push_46 ?_
        refine lv_lload_n hx hb d_Reckoner_push_49 rfl (lv_at hl 2 rfl) ?_
        refine va_last hx hb hK hP hD hS 2 2 rfl rfl (oi_in (N := 19) (by decide) c_1 c_3) d_Reckoner_push_50 (fun H locs hP hD hS => ?_)
        have hP : va_P (dC, dI) vwCl [(oR, .inr (4, [.ref aU, .ref aL, .int pe, .int wy, .long mi])), (aU, .inl (cJ, 19, .inr (.inl (vp_updL ru pe.toNatClampNeg va)))), (aL, .inl (cJ, 19, .inr (.inl (vp_updL rl pe.toNatClampNeg vb))))] H := hP
        have hD : va_D A [(oR, .inr (4, [.ref aU, .ref aL, .int pe, .int wy, .long mi])), (aU, .inl (cJ, 19, .inr (.inl (vp_updL ru pe.toNatClampNeg va)))), (aL, .inl (cJ, 19, .inr (.inl (vp_updL rl pe.toNatClampNeg vb))))] := hD
        refine lv_aload_n hx hb d_Reckoner_push_51 rfl (lv_at hl 0 rfl) ?_
        refine lv_dup hx hb d_Reckoner_push_52 rfl ?_
        refine va_get (D := (dC, dI)) (ci := 4) (v := .int pe) (C := "PermitRules$Reckoner") (T := T_Reckoner) (N := 5) hx hb htb in_Reckoner hown hK hP 0 rfl rfl 2 (by decide) (htb _ mb_100) (fun _ h9 => h9) rfl d_Reckoner_push_53 ?_
        refine lv_iconst (v := 1) hx hb d_Reckoner_push_56 (by decide) ?_
        refine lv_iadd hx hb d_Reckoner_push_57 ?_
        refine va_put (D := (dC, dI)) (ci := 4) (v := .int (pe + 1)) (ty := .int) (C := "PermitRules$Reckoner") (T := T_Reckoner) (N := 5) hx hb htb in_Reckoner ty_Reckoner to_Reckoner nm_Reckoner hown hK hP hD hS 0 rfl rfl 2 (by decide) (htb _ mb_100) (fun _ h9 => h9) rfl (by decide +kernel) rfl rfl (Nat.le_of_ble_eq_true rfl) d_Reckoner_push_58 (fun H locs hP hD hS => ?_)
        have hP : va_P (dC, dI) vwCl [(oR, .inr (4, [.ref aU, .ref aL, .int (pe + 1), .int wy, .long mi])), (aU, .inl (cJ, 19, .inr (.inl (vp_updL ru pe.toNatClampNeg va)))), (aL, .inl (cJ, 19, .inr (.inl (vp_updL rl pe.toNatClampNeg vb))))] H := hP
        have hD : va_D A [(oR, .inr (4, [.ref aU, .ref aL, .int (pe + 1), .int wy, .long mi])), (aU, .inl (cJ, 19, .inr (.inl (vp_updL ru pe.toNatClampNeg va)))), (aL, .inl (cJ, 19, .inr (.inl (vp_updL rl pe.toNatClampNeg vb))))] := hD
        have hP9 := hP.sub (ws' := [(oR, .inr (4, [.ref aU, .ref aL, .int (pe + 1), .int wy, .long mi])), (aU, .inl (cJ, 19, .inr (.inl (vp_updL ru pe.toNatClampNeg va)))), (aL, .inl (cJ, 19, .inr (.inl (vp_updL rl pe.toNatClampNeg vb))))]) [0, 1, 2] rfl
        have hD9 := hD.sub (ws' := [(oR, .inr (4, [.ref aU, .ref aL, .int (pe + 1), .int wy, .long mi])), (aU, .inl (cJ, 19, .inr (.inl (vp_updL ru pe.toNatClampNeg va)))), (aL, .inl (cJ, 19, .inr (.inl (vp_updL rl pe.toNatClampNeg vb))))]) [0, 1, 2] (by decide) rfl
        exact W.vret hx hb hr (fun t ht hW => ⟨⟨(pe + 1, vp_updL ru pe.toNatClampNeg va, vp_updL rl pe.toNatClampNeg vb), rfl, by rw [hF], by rw [ht]; exact hP9, hD9⟩, hS.F ht⟩) hS.2.2 d_Reckoner_push_61
def f_Reckoner_pushFact (nm : Int64) (pe : Int32) (wy : Int32) (mi : Int64) (ru : (Nat → Int64)) (rl : (Nat → Int64)) (fz : Int32) (fn : (Nat → Int64)) (fv : (Nat → Int32)) : Int32 × Int32 × Int64 × (Nat → Int64) × (Nat → Int64) := (lt_ (f_Facts_find nm fz fn) fun z_1 => (if z_1 = (-1) then (pe, 1, nm, ru, rl) else (lt_ (f_Facts_valueAt z_1 fv) fun z_3 => (lt_ (f_Reckoner_push z_3.toInt64 1 pe ru rl) fun z_4 => (z_4.1, wy, mi, z_4.2.1, z_4.2.2)))))
abbrev q_Reckoner_pushFact (dC : Nat → ClassId) (dI : Nat → Nat → Nat) (cB cI cJ : ClassId) (oR aU aL oF aN aV : Nat) (nm : Int64) (pe : Int32) (wy : Int32) (mi : Int64) (ru : (Nat → Int64)) (rl : (Nat → Int64)) (fz : Int32) (fn : (Nat → Int64)) (fv : (Nat → Int32)) (A : Nat → Prop) : Array Value → State → Outcome → State → Prop := va_Qv (fun u : Int32 × Int32 × Int64 × (Nat → Int64) × (Nat → Int64) => u = f_Reckoner_pushFact nm pe wy mi ru rl fz fn fv) (fun u t => va_P (dC, dI) vwCl [(oR, .inr (4, [.ref aU, .ref aL, .int u.1, .int u.2.1, .long u.2.2.1])), (aU, .inl (cJ, 19, .inr (.inl u.2.2.2.1))), (aL, .inl (cJ, 19, .inr (.inl u.2.2.2.2))), (oF, .inr (1, [.ref aN, .ref aV, .int fz])), (aN, .inl (cJ, 40, .inr (.inl fn))), (aV, .inl (cI, 40, .inl fv))] t.heap ∧ va_D A [(oR, .inr (4, [.ref aU, .ref aL, .int u.1, .int u.2.1, .long u.2.2.1])), (aU, .inl (cJ, 19, .inr (.inl u.2.2.2.1))), (aL, .inl (cJ, 19, .inr (.inl u.2.2.2.2))), (oF, .inr (1, [.ref aN, .ref aV, .int fz])), (aN, .inl (cJ, 40, .inr (.inl fn))), (aV, .inl (cI, 40, .inl fv))]) A
set_option maxHeartbeats 4000000 in
set_option maxRecDepth 100000 in
theorem c_Reckoner_pushFact (l : Launch) (dC : Nat → ClassId) (dI : Nat → Nat → Nat) (cB cI cJ : ClassId) (oR aU aL oF aN aV : Nat) (sz : Nat) (nm : Int64) (pe : Int32) (wy : Int32) (mi : Int64) (ru : (Nat → Int64)) (rl : (Nat → Int64)) (fz : Int32) (fn : (Nat → Int64)) (fv : (Nat → Int32)) : Met l y_Reckoner_pushFact (cw_Reckoner_pushFact :: bgw) { frames := 1, cells := 0, slots := 0, locals := 24 } (va_Pc [.ref oR, .ref oF, .long nm] (kb_B dC dI cB cI cJ [(oR, .inr (4, [.ref aU, .ref aL, .int pe, .int wy, .long mi])), (aU, .inl (cJ, 19, .inr (.inl ru))), (aL, .inl (cJ, 19, .inr (.inl rl))), (oF, .inr (1, [.ref aN, .ref aV, .int fz])), (aN, .inl (cJ, 40, .inr (.inl fn))), (aV, .inl (cI, 40, .inl fv))] sz)) (q_Reckoner_pushFact dC dI cB cI cJ oR aU aL oF aN aV nm pe wy mi ru rl fz fn fv (va_A [(oR, .inr (4, [.ref aU, .ref aL, .int pe, .int wy, .long mi])), (aU, .inl (cJ, 19, .inr (.inl ru))), (aL, .inl (cJ, 19, .inr (.inl rl))), (oF, .inr (1, [.ref aN, .ref aV, .int fz])), (aN, .inl (cJ, 40, .inr (.inl fn))), (aV, .inl (cI, 40, .inl fv))] sz)) 0 0 (va_A [(oR, .inr (4, [.ref aU, .ref aL, .int pe, .int wy, .long mi])), (aU, .inl (cJ, 19, .inr (.inl ru))), (aL, .inl (cJ, 19, .inr (.inl rl))), (oF, .inr (1, [.ref aN, .ref aV, .int fz])), (aN, .inl (cJ, 40, .inr (.inl fn))), (aV, .inl (cI, 40, .inl fv))] sz) := by
  refine Met.ofW (cc := prog_6_method_10_code) (maxL := 5) (ret := none) (by decide) rfl ?_
  intro p e s m args below meth c s₁ B hml hv
  obtain ⟨rfl, hsz, hP, hKx, hD0⟩ := hv
  have hx := B.exec
  have hb := B.bytes
  have hr := B.returns
  have hts := atoms_spec (ws := (cw_Reckoner_pushFact :: bgw)) B.pre
  have hown : s.vm.findClass "PermitRules$Reckoner" = some m.cls := findClass_of_methodNamed B.named
  have hlocks := B.notSynchronized
  have htb := fun (w : Cond) (h : w ∈ bgw) => hts w (List.mem_cons_of_mem _ h)
  have hK := hKx.1
  subst hsz
  have hD := hD0.self (sz := s.heap.size)
  generalize hAe : va_A [(oR, .inr (4, [.ref aU, .ref aL, .int pe, .int wy, .long mi])), (aU, .inl (cJ, 19, .inr (.inl ru))), (aL, .inl (cJ, 19, .inr (.inl rl))), (oF, .inr (1, [.ref aN, .ref aV, .int fz])), (aN, .inl (cJ, 40, .inr (.inl fn))), (aV, .inl (cI, 40, .inl fv))] s.heap.size = A at hD ⊢
  have hA : ∀ q : Nat, s.heap.size ≤ q → A q := fun q h => by rw [← hAe]; exact Or.inr h
  have hS : va_S A s.heap s.heap [] := va_S.rf
  have hl := lv_entry ([.ref oR, .ref oF, .long nm]) (n := 5) (Nat.le_of_ble_eq_true rfl)
  rw [lg_entry_eq]
  generalize (lg_sl ([.ref oR, .ref oF, .long nm]) ++ List.replicate (5 - (lg_sl ([.ref oR, .ref oF, .long nm])).length) Slot.unset).toArray = ls at hl ⊢
  have hl : lv_has ls 5 [(0, .ref oR), (1, .ref oF), (2, .long nm)] := hl
  have hP : va_P (dC, dI) vwCl [(oR, .inr (4, [.ref aU, .ref aL, .int pe, .int wy, .long mi])), (aU, .inl (cJ, 19, .inr (.inl ru))), (aL, .inl (cJ, 19, .inr (.inl rl))), (oF, .inr (1, [.ref aN, .ref aV, .int fz])), (aN, .inl (cJ, 40, .inr (.inl fn))), (aV, .inl (cI, 40, .inl fv))] s.heap := hP
  have hF : f_Reckoner_pushFact nm pe wy mi ru rl fz fn fv = (lt_ (f_Facts_find nm fz fn) fun z_1 => (if z_1 = (-1) then (pe, 1, nm, ru, rl) else (lt_ (f_Facts_valueAt z_1 fv) fun z_3 => (lt_ (f_Reckoner_push z_3.toInt64 1 pe ru rl) fun z_4 => (z_4.1, wy, mi, z_4.2.1, z_4.2.2))))) := rfl
  refine lv_aload_n hx hb d_Reckoner_pushFact_0 rfl (lv_at hl 1 rfl) ?_
  refine lv_lload_n hx hb d_Reckoner_pushFact_1 rfl (lv_at hl 2 rfl) ?_
  have hPc := hP.sub (ws' := [(oF, .inr (1, [.ref aN, .ref aV, .int fz])), (aN, .inl (cJ, 40, .inr (.inl fn))), (aV, .inl (cI, 40, .inl fv))]) [3, 4, 5] rfl
  have hDc := hD.sub (ws' := [(oF, .inr (1, [.ref aN, .ref aV, .int fz])), (aN, .inl (cJ, 40, .inr (.inl fn))), (aV, .inl (cI, 40, .inl fv))]) [3, 4, 5] (by decide) rfl
  have hFc := va_free (wc := [(oF, .inr (1, [.ref aN, .ref aV, .int fz])), (aN, .inl (cJ, 40, .inr (.inl fn))), (aV, .inl (cI, 40, .inl fv))]) hD hS hA [3, 4, 5] rfl
  refine va_calli (va_runV (As := [.long nm]) (rest := []) ⟨hx, hb, hml, hown, htb⟩ (c_Facts_find l dC dI cB cI cJ oF aN aV _ nm fz fn fv ) ⟨callB_of 1 htb (gb_all mb_449) rfl rfl rfl (htb _ mb_5) (htb _ mb_541) (by decide +kernel) ⟨Nat.le_of_ble_eq_true rfl, Nat.le_of_ble_eq_true rfl⟩, htb _ mb_447, htb _ mb_448⟩ ⟨kb_blind, va_recv hK hPc (ci := 1) (q0 := 0) rfl rfl, kb_at hPc hDc hKx⟩ rfl rfl hl.1 rfl (lv_room (Nat.le_of_ble_eq_true rfl)) d_Reckoner_pushFact_2 ⟨Nat.le_of_ble_eq_true rfl, Nat.le_of_ble_eq_true rfl⟩) hS (fun q _ h => hFc q h) hFc (fun z_1 u t H1 locs ht hvm hw hB hz1 hk1 hS => ?_)
  have hz_1 := hw
  have hF := hF.trans (lt_e hz_1)
  obtain ⟨hP1, hD1⟩ := hB
  rw [ht] at hP1
  obtain ⟨hP, hD⟩ := va_join (wr := [(oR, .inr (4, [.ref aU, .ref aL, .int pe, .int wy, .long mi])), (aU, .inl (cJ, 19, .inr (.inl ru))), (aL, .inl (cJ, 19, .inr (.inl rl)))]) (w1 := [(oF, .inr (1, [.ref aN, .ref aV, .int fz])), (aN, .inl (cJ, 40, .inr (.inl fn))), (aV, .inl (cI, 40, .inl fv))]) hP hD [3, 4, 5] [0, 1, 2] rfl rfl (by decide) (by decide) hk1 hFc hP1 hD1
  generalize H1 = H at hP hS ⊢
  have hP : va_P (dC, dI) vwCl [(oR, .inr (4, [.ref aU, .ref aL, .int pe, .int wy, .long mi])), (aU, .inl (cJ, 19, .inr (.inl ru))), (aL, .inl (cJ, 19, .inr (.inl rl))), (oF, .inr (1, [.ref aN, .ref aV, .int fz])), (aN, .inl (cJ, 40, .inr (.inl fn))), (aV, .inl (cI, 40, .inl fv))] H := hP
  have hD : va_D A [(oR, .inr (4, [.ref aU, .ref aL, .int pe, .int wy, .long mi])), (aU, .inl (cJ, 19, .inr (.inl ru))), (aL, .inl (cJ, 19, .inr (.inl rl))), (oF, .inr (1, [.ref aN, .ref aV, .int fz])), (aN, .inl (cJ, 40, .inr (.inl fn))), (aV, .inl (cI, 40, .inl fv))] := hD
  refine lv_istore (lv' := [(4, .int z_1), (0, .ref oR), (1, .ref oF), (2, .long nm)]) hx hb d_Reckoner_pushFact_5 hl (by decide) rfl (fun ls hl => ?_)
  refine lv_iload hx hb d_Reckoner_pushFact_7 (lv_at hl 0 rfl) ?_
  refine lv_iconst (v := (-1)) hx hb d_Reckoner_pushFact_9 (by decide) ?_
  refine lv_icmp_ne (tgt := 26) hx hb d_Reckoner_pushFact_10 (by decide) (fun c_2 => ?_) (fun c_2 => ?_)
  · have hF := hF.trans (if_neg c_2)
    refine lv_aload_n hx hb d_Reckoner_pushFact_26 rfl (lv_at hl 1 rfl) ?_
    refine lv_aload_n hx hb d_Reckoner_pushFact_27 rfl (lv_at hl 2 rfl) ?_
    refine lv_iload hx hb d_Reckoner_pushFact_28 (lv_at hl 0 rfl) ?_
    have hPc := hP.sub (ws' := [(oF, .inr (1, [.ref aN, .ref aV, .int fz])), (aN, .inl (cJ, 40, .inr (.inl fn))), (aV, .inl (cI, 40, .inl fv))]) [3, 4, 5] rfl
    have hDc := hD.sub (ws' := [(oF, .inr (1, [.ref aN, .ref aV, .int fz])), (aN, .inl (cJ, 40, .inr (.inl fn))), (aV, .inl (cI, 40, .inl fv))]) [3, 4, 5] (by decide) rfl
    have hFc := va_free (wc := [(oF, .inr (1, [.ref aN, .ref aV, .int fz])), (aN, .inl (cJ, 40, .inr (.inl fn))), (aV, .inl (cI, 40, .inl fv))]) hD hS hA [3, 4, 5] rfl
    refine va_calli (va_runV (As := [.int z_1]) (rest := [.ref oR]) ⟨hx, hb, hml, hown, htb⟩ (c_Facts_valueAt l dC dI cB cI cJ oF aN aV _ z_1 fz fn fv ) ⟨callB_of 1 htb (gb_all mb_459) rfl rfl rfl (htb _ mb_5) (htb _ mb_542) (by decide +kernel) ⟨Nat.le_of_ble_eq_true rfl, Nat.le_of_ble_eq_true rfl⟩, htb _ mb_457, htb _ mb_458⟩ ⟨kb_blind, va_recv hK hPc (ci := 1) (q0 := 0) rfl rfl, kb_at hPc hDc hKx⟩ rfl rfl hl.1 rfl (lv_room (Nat.le_of_ble_eq_true rfl)) d_Reckoner_pushFact_30 ⟨Nat.le_of_ble_eq_true rfl, Nat.le_of_ble_eq_true rfl⟩) hS (fun q _ h => hFc q h) hFc (fun z_3 u t H1 locs ht hvm hw hB hz1 hk1 hS => ?_)
    have hz_3 := hw
    have hF := hF.trans (lt_e hz_3)
    obtain ⟨hP1, hD1⟩ := hB
    rw [ht] at hP1
    obtain ⟨hP, hD⟩ := va_join (wr := [(oR, .inr (4, [.ref aU, .ref aL, .int pe, .int wy, .long mi])), (aU, .inl (cJ, 19, .inr (.inl ru))), (aL, .inl (cJ, 19, .inr (.inl rl)))]) (w1 := [(oF, .inr (1, [.ref aN, .ref aV, .int fz])), (aN, .inl (cJ, 40, .inr (.inl fn))), (aV, .inl (cI, 40, .inl fv))]) hP hD [3, 4, 5] [0, 1, 2] rfl rfl (by decide) (by decide) hk1 hFc hP1 hD1
    generalize H1 = H at hP hS ⊢
    have hP : va_P (dC, dI) vwCl [(oR, .inr (4, [.ref aU, .ref aL, .int pe, .int wy, .long mi])), (aU, .inl (cJ, 19, .inr (.inl ru))), (aL, .inl (cJ, 19, .inr (.inl rl))), (oF, .inr (1, [.ref aN, .ref aV, .int fz])), (aN, .inl (cJ, 40, .inr (.inl fn))), (aV, .inl (cI, 40, .inl fv))] H := hP
    have hD : va_D A [(oR, .inr (4, [.ref aU, .ref aL, .int pe, .int wy, .long mi])), (aU, .inl (cJ, 19, .inr (.inl ru))), (aL, .inl (cJ, 19, .inr (.inl rl))), (oF, .inr (1, [.ref aN, .ref aV, .int fz])), (aN, .inl (cJ, 40, .inr (.inl fn))), (aV, .inl (cI, 40, .inl fv))] := hD
    refine lv_i2l (v := z_3.toInt64) hx hb d_Reckoner_pushFact_33 rfl ?_
    refine lv_lconst (v := 1) hx hb d_Reckoner_pushFact_34 (by decide) ?_
    have hPc := hP.sub (ws' := [(oR, .inr (4, [.ref aU, .ref aL, .int pe, .int wy, .long mi])), (aU, .inl (cJ, 19, .inr (.inl ru))), (aL, .inl (cJ, 19, .inr (.inl rl)))]) [0, 1, 2] rfl
    have hDc := hD.sub (ws' := [(oR, .inr (4, [.ref aU, .ref aL, .int pe, .int wy, .long mi])), (aU, .inl (cJ, 19, .inr (.inl ru))), (aL, .inl (cJ, 19, .inr (.inl rl)))]) [0, 1, 2] (by decide) rfl
    have hFc := va_free (wc := [(oR, .inr (4, [.ref aU, .ref aL, .int pe, .int wy, .long mi])), (aU, .inl (cJ, 19, .inr (.inl ru))), (aL, .inl (cJ, 19, .inr (.inl rl)))]) hD hS hA [0, 1, 2] rfl
    refine va_callv (va_runV (As := [.long z_3.toInt64, .long 1]) (rest := []) ⟨hx, hb, hml, hown, htb⟩ (c_Reckoner_push l dC dI cB cI cJ oR aU aL _ z_3.toInt64 1 pe wy mi ru rl ) ⟨callB_of 2 htb (gb_all mb_536) rfl rfl rfl (htb _ mb_7) (htb _ mb_533) (by decide +kernel) ⟨Nat.le_of_ble_eq_true rfl, Nat.le_of_ble_eq_true rfl⟩, htb _ mb_535, htb _ mp_7⟩ ⟨kb_blind, va_recv hK hPc (ci := 4) (q0 := 0) rfl rfl, kb_at hPc hDc hKx⟩ rfl rfl hl.1 rfl (lv_room (Nat.le_of_ble_eq_true rfl)) d_Reckoner_pushFact_35 ⟨Nat.le_of_ble_eq_true rfl, Nat.le_of_ble_eq_true rfl⟩) hS (fun q _ h => hFc q h) hFc (fun z_4 t H1 locs ht hvm hw hB hz1 hk1 hS => ?_)
    have hz_4 := hw
    have hF := hF.trans (lt_e hz_4)
    obtain ⟨hP1, hD1⟩ := hB
    rw [ht] at hP1
    obtain ⟨hP, hD⟩ := va_join (wr := [(oF, .inr (1, [.ref aN, .ref aV, .int fz])), (aN, .inl (cJ, 40, .inr (.inl fn))), (aV, .inl (cI, 40, .inl fv))]) (w1 := [(oR, .inr (4, [.ref aU, .ref aL, .int z_4.1, .int wy, .long mi])), (aU, .inl (cJ, 19, .inr (.inl z_4.2.1))), (aL, .inl (cJ, 19, .inr (.inl z_4.2.2)))]) hP hD [0, 1, 2] [3, 4, 5] rfl rfl (by decide) (by decide) hk1 hFc hP1 hD1
    generalize H1 = H at hP hS ⊢
    have hP : va_P (dC, dI) vwCl [(oF, .inr (1, [.ref aN, .ref aV, .int fz])), (aN, .inl (cJ, 40, .inr (.inl fn))), (aV, .inl (cI, 40, .inl fv)), (oR, .inr (4, [.ref aU, .ref aL, .int z_4.1, .int wy, .long mi])), (aU, .inl (cJ, 19, .inr (.inl z_4.2.1))), (aL, .inl (cJ, 19, .inr (.inl z_4.2.2)))] H := hP
    have hD : va_D A [(oF, .inr (1, [.ref aN, .ref aV, .int fz])), (aN, .inl (cJ, 40, .inr (.inl fn))), (aV, .inl (cI, 40, .inl fv)), (oR, .inr (4, [.ref aU, .ref aL, .int z_4.1, .int wy, .long mi])), (aU, .inl (cJ, 19, .inr (.inl z_4.2.1))), (aL, .inl (cJ, 19, .inr (.inl z_4.2.2)))] := hD
    have hP9 := hP.sub (ws' := [(oR, .inr (4, [.ref aU, .ref aL, .int z_4.1, .int wy, .long mi])), (aU, .inl (cJ, 19, .inr (.inl z_4.2.1))), (aL, .inl (cJ, 19, .inr (.inl z_4.2.2))), (oF, .inr (1, [.ref aN, .ref aV, .int fz])), (aN, .inl (cJ, 40, .inr (.inl fn))), (aV, .inl (cI, 40, .inl fv))]) [3, 4, 5, 0, 1, 2] rfl
    have hD9 := hD.sub (ws' := [(oR, .inr (4, [.ref aU, .ref aL, .int z_4.1, .int wy, .long mi])), (aU, .inl (cJ, 19, .inr (.inl z_4.2.1))), (aL, .inl (cJ, 19, .inr (.inl z_4.2.2))), (oF, .inr (1, [.ref aN, .ref aV, .int fz])), (aN, .inl (cJ, 40, .inr (.inl fn))), (aV, .inl (cI, 40, .inl fv))]) [3, 4, 5, 0, 1, 2] (by decide) rfl
    exact W.vret hx hb hr (fun t ht hW => ⟨⟨(z_4.1, wy, mi, z_4.2.1, z_4.2.2), rfl, by rw [hF], by rw [ht]; exact hP9, hD9⟩, hS.F ht⟩) hS.2.2 d_Reckoner_pushFact_38
  · have hF := hF.trans (if_pos c_2)
    refine lv_aload_n hx hb d_Reckoner_pushFact_13 rfl (lv_at hl 1 rfl) ?_
    refine lv_iconst (v := 1) hx hb d_Reckoner_pushFact_14 (by decide) ?_
    refine va_put (D := (dC, dI)) (ci := 4) (v := .int 1) (ty := .int) (C := "PermitRules$Reckoner") (T := T_Reckoner) (N := 5) hx hb htb in_Reckoner ty_Reckoner to_Reckoner nm_Reckoner hown hK hP hD hS 0 rfl rfl 3 (by decide) (htb _ mb_101) (fun _ h9 => h9) rfl (by decide +kernel) rfl rfl (Nat.le_of_ble_eq_true rfl) d_Reckoner_pushFact_15 (fun H locs hP hD hS => ?_)
    have hP : va_P (dC, dI) vwCl [(oR, .inr (4, [.ref aU, .ref aL, .int pe, .int 1, .long mi])), (aU, .inl (cJ, 19, .inr (.inl ru))), (aL, .inl (cJ, 19, .inr (.inl rl))), (oF, .inr (1, [.ref aN, .ref aV, .int fz])), (aN, .inl (cJ, 40, .inr (.inl fn))), (aV, .inl (cI, 40, .inl fv))] H := hP
    have hD : va_D A [(oR, .inr (4, [.ref aU, .ref aL, .int pe, .int 1, .long mi])), (aU, .inl (cJ, 19, .inr (.inl ru))), (aL, .inl (cJ, 19, .inr (.inl rl))), (oF, .inr (1, [.ref aN, .ref aV, .int fz])), (aN, .inl (cJ, 40, .inr (.inl fn))), (aV, .inl (cI, 40, .inl fv))] := hD
    refine lv_aload_n hx hb d_Reckoner_pushFact_18 rfl (lv_at hl 1 rfl) ?_
    refine lv_lload_n hx hb d_Reckoner_pushFact_19 rfl (lv_at hl 3 rfl) ?_
    refine va_put (D := (dC, dI)) (ci := 4) (v := .long nm) (ty := .long) (C := "PermitRules$Reckoner") (T := T_Reckoner) (N := 5) hx hb htb in_Reckoner ty_Reckoner to_Reckoner nm_Reckoner hown hK hP hD hS 0 rfl rfl 4 (by decide) (htb _ mb_104) (fun _ h9 => h9) rfl (by decide +kernel) rfl rfl (Nat.le_of_ble_eq_true rfl) d_Reckoner_pushFact_20 (fun H locs hP hD hS => ?_)
    have hP : va_P (dC, dI) vwCl [(oR, .inr (4, [.ref aU, .ref aL, .int pe, .int 1, .long nm])), (aU, .inl (cJ, 19, .inr (.inl ru))), (aL, .inl (cJ, 19, .inr (.inl rl))), (oF, .inr (1, [.ref aN, .ref aV, .int fz])), (aN, .inl (cJ, 40, .inr (.inl fn))), (aV, .inl (cI, 40, .inl fv))] H := hP
    have hD : va_D A [(oR, .inr (4, [.ref aU, .ref aL, .int pe, .int 1, .long nm])), (aU, .inl (cJ, 19, .inr (.inl ru))), (aL, .inl (cJ, 19, .inr (.inl rl))), (oF, .inr (1, [.ref aN, .ref aV, .int fz])), (aN, .inl (cJ, 40, .inr (.inl fn))), (aV, .inl (cI, 40, .inl fv))] := hD
    refine lv_goto (tgt := 38) hx hb d_Reckoner_pushFact_23 (by decide) ?_
    have hP9 := hP.sub (ws' := [(oR, .inr (4, [.ref aU, .ref aL, .int pe, .int 1, .long nm])), (aU, .inl (cJ, 19, .inr (.inl ru))), (aL, .inl (cJ, 19, .inr (.inl rl))), (oF, .inr (1, [.ref aN, .ref aV, .int fz])), (aN, .inl (cJ, 40, .inr (.inl fn))), (aV, .inl (cI, 40, .inl fv))]) [0, 1, 2, 3, 4, 5] rfl
    have hD9 := hD.sub (ws' := [(oR, .inr (4, [.ref aU, .ref aL, .int pe, .int 1, .long nm])), (aU, .inl (cJ, 19, .inr (.inl ru))), (aL, .inl (cJ, 19, .inr (.inl rl))), (oF, .inr (1, [.ref aN, .ref aV, .int fz])), (aN, .inl (cJ, 40, .inr (.inl fn))), (aV, .inl (cI, 40, .inl fv))]) [0, 1, 2, 3, 4, 5] (by decide) rfl
    exact W.vret hx hb hr (fun t ht hW => ⟨⟨(pe, 1, nm, ru, rl), rfl, by rw [hF], by rw [ht]; exact hP9, hD9⟩, hS.F ht⟩) hS.2.2 d_Reckoner_pushFact_38
def f_Reckoner_commonDivisor_L31 (va : Int64) (vb : Int64) : Nat → Int32 → Int64 → Int64 → Int64
  | 0, _, _, _ => 0
  | n + 1, i, ga, gb => (if 128 ≤ i then ga else (if (lg_cmp gb 0) = 0 then ga else (f_Reckoner_commonDivisor_L31 va vb n (i + 1) gb (ga - ga / gb * gb))))
theorem f_Reckoner_commonDivisor_L31_s (va : Int64) (vb : Int64) (n : Nat) (i : Int32) (ga : Int64) (gb : Int64) : f_Reckoner_commonDivisor_L31 va vb (n + 1) i ga gb = (if 128 ≤ i then ga else (if (lg_cmp gb 0) = 0 then ga else (f_Reckoner_commonDivisor_L31 va vb n (i + 1) gb (ga - ga / gb * gb)))) := rfl
def f_Reckoner_commonDivisor (va : Int64) (vb : Int64) : Int64 := (if (lg_cmp va 0) ≤ 0 then (if (lg_cmp vb 0) ≤ 0 then (f_Reckoner_commonDivisor_L31 va vb 129 0 va vb) else (f_Reckoner_commonDivisor_L31 va vb 129 0 va (-vb))) else (if (lg_cmp vb 0) ≤ 0 then (f_Reckoner_commonDivisor_L31 va vb 129 0 (-va) vb) else (f_Reckoner_commonDivisor_L31 va vb 129 0 (-va) (-vb))))
abbrev q_Reckoner_commonDivisor (dC : Nat → ClassId) (dI : Nat → Nat → Nat) (cB cI cJ : ClassId) (va : Int64) (vb : Int64) (A : Nat → Prop) : Array Value → State → Outcome → State → Prop := va_Ql (fun (r : Int64) (u : Unit) => r = f_Reckoner_commonDivisor va vb) (fun u t => va_P (dC, dI) vwCl [] t.heap ∧ va_D A []) A
set_option maxHeartbeats 4000000 in
set_option maxRecDepth 100000 in
theorem c_Reckoner_commonDivisor (l : Launch) (dC : Nat → ClassId) (dI : Nat → Nat → Nat) (cB cI cJ : ClassId) (sz : Nat) (va : Int64) (vb : Int64) : Met l y_Reckoner_commonDivisor (cw_Reckoner_commonDivisor :: bgw) { frames := 0, cells := 0, slots := 0, locals := 0 } (va_Pc [.long va, .long vb] (kb_B dC dI cB cI cJ [] sz)) (q_Reckoner_commonDivisor dC dI cB cI cJ va vb (va_A [] sz)) 0 0 (va_A [] sz) := by
  refine Met.ofW (cc := prog_6_method_13_code) (maxL := 11) (ret := (some .long)) (by decide) rfl ?_
  intro p e s m args below meth c s₁ B hml hv
  obtain ⟨rfl, hsz, hP, hKx, hD0⟩ := hv
  have hx := B.exec
  have hb := B.bytes
  have hr := B.returns
  have hts := atoms_spec (ws := (cw_Reckoner_commonDivisor :: bgw)) B.pre
  have hown : s.vm.findClass "PermitRules$Reckoner" = some m.cls := findClass_of_methodNamed B.named
  have hlocks := B.notSynchronized
  have htb := fun (w : Cond) (h : w ∈ bgw) => hts w (List.mem_cons_of_mem _ h)
  have hK := hKx.1
  subst hsz
  have hD := hD0.self (sz := s.heap.size)
  generalize hAe : va_A [] s.heap.size = A at hD ⊢
  have hA : ∀ q : Nat, s.heap.size ≤ q → A q := fun q h => by rw [← hAe]; exact Or.inr h
  have hS : va_S A s.heap s.heap [] := va_S.rf
  have hl := lv_entry ([.long va, .long vb]) (n := 11) (Nat.le_of_ble_eq_true rfl)
  rw [lg_entry_eq]
  generalize (lg_sl ([.long va, .long vb]) ++ List.replicate (11 - (lg_sl ([.long va, .long vb])).length) Slot.unset).toArray = ls at hl ⊢
  have hl : lv_has ls 11 [(0, .long va), (2, .long vb)] := hl
  have hP : va_P (dC, dI) vwCl [] s.heap := hP
  have hF : f_Reckoner_commonDivisor va vb = (if (lg_cmp va 0) ≤ 0 then (if (lg_cmp vb 0) ≤ 0 then (f_Reckoner_commonDivisor_L31 va vb 129 0 va vb) else (f_Reckoner_commonDivisor_L31 va vb 129 0 va (-vb))) else (if (lg_cmp vb 0) ≤ 0 then (f_Reckoner_commonDivisor_L31 va vb 129 0 (-va) vb) else (f_Reckoner_commonDivisor_L31 va vb 129 0 (-va) (-vb)))) := rfl
  have lp31 : ∀ (n : Nat) (i : Int32) (ga : Int64) (gb : Int64), ¬ i < 0 → ((128 : Int) - i.toInt).toNat < n → f_Reckoner_commonDivisor va vb = f_Reckoner_commonDivisor_L31 va vb n i ga gb → ∀ (H : Heap) (locs : List Loc) (ls : Array Slot), va_P (dC, dI) vwCl [] H → va_D A [] → va_S A s.heap H locs → lv_has ls 11 [(8, .int i), (6, .long gb), (4, .long ga)] → W p l e (headSpec (cw_Reckoner_commonDivisor :: bgw) { frames := 0, cells := 0, slots := 0, locals := 0 }).room s m ([.long va, .long vb] : List Value).toArray below meth c H locs 0 0 (MQ below (q_Reckoner_commonDivisor dC dI cB cI cJ va vb A) ([.long va, .long vb] : List Value).toArray s 0 0 A) (F0 m 31 ls []) := by
    intro n
    induction n with
    | zero => intro i ga gb i0 hn; exact absurd hn (Nat.not_lt_zero _)
    | succ n ih =>
      intro i ga gb i0 hn hF H locs ls hP hD hS hl
      have hF := hF.trans (f_Reckoner_commonDivisor_L31_s va vb n i ga gb)
      refine lv_iload hx hb d_Reckoner_commonDivisor_31 (lv_at hl 0 rfl) ?_
      refine lv_sipush (v := 128) hx hb d_Reckoner_commonDivisor_33 (by decide) ?_
      refine lv_icmp_ge (tgt := 67) hx hb d_Reckoner_commonDivisor_36 (by decide) (fun c_3 => ?_) (fun c_3 => ?_)
      · have hF := hF.trans (if_pos c_3)
        refine lv_lload hx hb d_Reckoner_commonDivisor_67 (lv_at hl 2 rfl) ?_
        have hP9 := hP.sub (ws' := []) [] rfl
        have hD9 := hD.sub (ws' := []) [] (by decide) rfl
        exact W.lret (v := ga) hx hb hr (fun t ht hW => ⟨⟨ga, (), rfl, by rw [hF], by rw [ht]; exact hP9, hD9⟩, hS.F ht⟩) hS.2.2 d_Reckoner_commonDivisor_69
      · have hF := hF.trans (if_neg c_3)
        refine lv_lload hx hb d_Reckoner_commonDivisor_39 (lv_at hl 1 rfl) ?_
        refine lv_lconst (v := 0) hx hb d_Reckoner_commonDivisor_41 (by decide) ?_
        refine W.lcmp hx hb d_Reckoner_commonDivisor_42 ?_
        refine lv_if_eq (tgt := 67) hx hb d_Reckoner_commonDivisor_43 (by decide) (fun c_4 => ?_) (fun c_4 => ?_)
        · have hF := hF.trans (if_pos c_4)
          refine lv_lload hx hb d_Reckoner_commonDivisor_67 (lv_at hl 2 rfl) ?_
          have hP9 := hP.sub (ws' := []) [] rfl
          have hD9 := hD.sub (ws' := []) [] (by decide) rfl
          exact W.lret (v := ga) hx hb hr (fun t ht hW => ⟨⟨ga, (), rfl, by rw [hF], by rw [ht]; exact hP9, hD9⟩, hS.F ht⟩) hS.2.2 d_Reckoner_commonDivisor_69
        · have hF := hF.trans (if_neg c_4)
          refine lv_lload hx hb d_Reckoner_commonDivisor_46 (lv_at hl 2 rfl) ?_
          refine lv_lload hx hb d_Reckoner_commonDivisor_48 (lv_at hl 1 rfl) ?_
          refine lv_lrem hx hb d_Reckoner_commonDivisor_50 (oi_nz c_4) ?_
          refine lv_lstore (lv' := [(9, .long (ga - ga / gb * gb)), (8, .int i), (6, .long gb), (4, .long ga)]) hx hb d_Reckoner_commonDivisor_51 hl (by decide) rfl (fun ls hl => ?_)
          refine lv_lload hx hb d_Reckoner_commonDivisor_53 (lv_at hl 2 rfl) ?_
          refine lv_lstore (lv' := [(4, .long gb), (9, .long (ga - ga / gb * gb)), (8, .int i), (6, .long gb)]) hx hb d_Reckoner_commonDivisor_55 hl (by decide) rfl (fun ls hl => ?_)
          refine lv_lload hx hb d_Reckoner_commonDivisor_57 (lv_at hl 1 rfl) ?_
          refine lv_lstore (lv' := [(6, .long (ga - ga / gb * gb)), (4, .long gb), (9, .long (ga - ga / gb * gb)), (8, .int i)]) hx hb d_Reckoner_commonDivisor_59 hl (by decide) rfl (fun ls hl => ?_)
          refine lv_iinc (v := i + 1) (lv' := [(8, .int (i + 1)), (6, .long (ga - ga / gb * gb)), (4, .long gb), (9, .long (ga - ga / gb * gb))]) hx hb d_Reckoner_commonDivisor_61 hl (k := 3) rfl (by first | rfl | decide) (by decide) rfl (fun ls hl => ?_)
          refine lv_goto (tgt := 31) hx hb d_Reckoner_commonDivisor_64 (by decide) ?_
          exact ih (i + 1) gb (ga - ga / gb * gb) (oi_s i0 c_3 (by decide) hn).1 (oi_s i0 c_3 (by decide) hn).2 hF _ _ _ (hP.sub [] rfl) (hD.sub [] (by decide) rfl) hS (lv_sub hl [0, 1, 2] rfl)
  refine lv_lload_n hx hb d_Reckoner_commonDivisor_0 rfl (lv_at hl 0 rfl) ?_
  refine lv_lconst (v := 0) hx hb d_Reckoner_commonDivisor_1 (by decide) ?_
  refine W.lcmp hx hb d_Reckoner_commonDivisor_2 ?_
  refine lv_if_le (tgt := 11) hx hb d_Reckoner_commonDivisor_3 (by decide) (fun c_1 => ?_) (fun c_1 => ?_)
  · have hF := hF.trans (if_pos c_1)
    refine lv_lload_n hx hb d_Reckoner_commonDivisor_11 rfl (lv_at hl 0 rfl) ?_
    refine lv_lstore (lv' := [(4, .long va), (0, .long va), (2, .long vb)]) hx hb d_Reckoner_commonDivisor_12 hl (by decide) rfl (fun ls hl => ?_)
    refine lv_lload_n hx hb d_Reckoner_commonDivisor_14 rfl (lv_at hl 2 rfl) ?_
    refine lv_lconst (v := 0) hx hb d_Reckoner_commonDivisor_15 (by decide) ?_
    refine W.lcmp hx hb d_Reckoner_commonDivisor_16 ?_
    refine lv_if_le (tgt := 25) hx hb d_Reckoner_commonDivisor_17 (by decide) (fun c_2 => ?_) (fun c_2 => ?_)
    · have hF := hF.trans (if_pos c_2)
      refine lv_lload_n hx hb d_Reckoner_commonDivisor_25 rfl (lv_at hl 2 rfl) ?_
      refine lv_lstore (lv' := [(6, .long vb), (4, .long va), (0, .long va), (2, .long vb)]) hx hb d_Reckoner_commonDivisor_26 hl (by decide) rfl (fun ls hl => ?_)
      refine lv_iconst (v := 0) hx hb d_Reckoner_commonDivisor_28 (by decide) ?_
      refine lv_istore (lv' := [(8, .int 0), (6, .long vb), (4, .long va), (0, .long va), (2, .long vb)]) hx hb d_Reckoner_commonDivisor_29 hl (by decide) rfl (fun ls hl => ?_)
      exact lp31 129 0 va vb (by decide) (by decide) hF _ _ _ (hP.sub [] rfl) (hD.sub [] (by decide) rfl) hS (lv_sub hl [0, 1, 2] rfl)
    · have hF := hF.trans (if_neg c_2)
      refine lv_lload_n hx hb d_Reckoner_commonDivisor_20 rfl (lv_at hl 2 rfl) ?_
      refine lv_lneg hx hb d_Reckoner_commonDivisor_21 ?_
      refine lv_goto (tgt := 26) hx hb d_Reckoner_commonDivisor_22 (by decide) ?_
      refine lv_lstore (lv' := [(6, .long (-vb)), (4, .long va), (0, .long va), (2, .long vb)]) hx hb d_Reckoner_commonDivisor_26 hl (by decide) rfl (fun ls hl => ?_)
      refine lv_iconst (v := 0) hx hb d_Reckoner_commonDivisor_28 (by decide) ?_
      refine lv_istore (lv' := [(8, .int 0), (6, .long (-vb)), (4, .long va), (0, .long va), (2, .long vb)]) hx hb d_Reckoner_commonDivisor_29 hl (by decide) rfl (fun ls hl => ?_)
      exact lp31 129 0 va (-vb) (by decide) (by decide) hF _ _ _ (hP.sub [] rfl) (hD.sub [] (by decide) rfl) hS (lv_sub hl [0, 1, 2] rfl)
  · have hF := hF.trans (if_neg c_1)
    refine lv_lload_n hx hb d_Reckoner_commonDivisor_6 rfl (lv_at hl 0 rfl) ?_
    refine lv_lneg hx hb d_Reckoner_commonDivisor_7 ?_
    refine lv_goto (tgt := 12) hx hb d_Reckoner_commonDivisor_8 (by decide) ?_
    refine lv_lstore (lv' := [(4, .long (-va)), (0, .long va), (2, .long vb)]) hx hb d_Reckoner_commonDivisor_12 hl (by decide) rfl (fun ls hl => ?_)
    refine lv_lload_n hx hb d_Reckoner_commonDivisor_14 rfl (lv_at hl 2 rfl) ?_
    refine lv_lconst (v := 0) hx hb d_Reckoner_commonDivisor_15 (by decide) ?_
    refine W.lcmp hx hb d_Reckoner_commonDivisor_16 ?_
    refine lv_if_le (tgt := 25) hx hb d_Reckoner_commonDivisor_17 (by decide) (fun c_5 => ?_) (fun c_5 => ?_)
    · have hF := hF.trans (if_pos c_5)
      refine lv_lload_n hx hb d_Reckoner_commonDivisor_25 rfl (lv_at hl 2 rfl) ?_
      refine lv_lstore (lv' := [(6, .long vb), (4, .long (-va)), (0, .long va), (2, .long vb)]) hx hb d_Reckoner_commonDivisor_26 hl (by decide) rfl (fun ls hl => ?_)
      refine lv_iconst (v := 0) hx hb d_Reckoner_commonDivisor_28 (by decide) ?_
      refine lv_istore (lv' := [(8, .int 0), (6, .long vb), (4, .long (-va)), (0, .long va), (2, .long vb)]) hx hb d_Reckoner_commonDivisor_29 hl (by decide) rfl (fun ls hl => ?_)
      exact lp31 129 0 (-va) vb (by decide) (by decide) hF _ _ _ (hP.sub [] rfl) (hD.sub [] (by decide) rfl) hS (lv_sub hl [0, 1, 2] rfl)
    · have hF := hF.trans (if_neg c_5)
      refine lv_lload_n hx hb d_Reckoner_commonDivisor_20 rfl (lv_at hl 2 rfl) ?_
      refine lv_lneg hx hb d_Reckoner_commonDivisor_21 ?_
      refine lv_goto (tgt := 26) hx hb d_Reckoner_commonDivisor_22 (by decide) ?_
      refine lv_lstore (lv' := [(6, .long (-vb)), (4, .long (-va)), (0, .long va), (2, .long vb)]) hx hb d_Reckoner_commonDivisor_26 hl (by decide) rfl (fun ls hl => ?_)
      refine lv_iconst (v := 0) hx hb d_Reckoner_commonDivisor_28 (by decide) ?_
      refine lv_istore (lv' := [(8, .int 0), (6, .long (-vb)), (4, .long (-va)), (0, .long va), (2, .long vb)]) hx hb d_Reckoner_commonDivisor_29 hl (by decide) rfl (fun ls hl => ?_)
      exact lp31 129 0 (-va) (-vb) (by decide) (by decide) hF _ _ _ (hP.sub [] rfl) (hD.sub [] (by decide) rfl) hS (lv_sub hl [0, 1, 2] rfl)
def f_Reckoner_settle (va : Int64) (vb : Int64) (pe : Int32) (wy : Int32) (ru : (Nat → Int64)) (rl : (Nat → Int64)) : Int32 × Int32 × (Nat → Int64) × (Nat → Int64) := (if wy = 0 then (if (lg_cmp vb 0) = 0 then (pe, wy, ru, rl) else (lt_ (f_Reckoner_commonDivisor va vb) fun z_3 => (if 0 ≤ (lg_cmp vb 0) then (if (lg_cmp (-z_3) (-1)) = 0 then (if (lg_cmp va (-9223372036854775808)) = 0 then (pe, 2, ru, rl) else (if (lg_cmp vb (-9223372036854775808)) = 0 then (pe, 2, ru, rl) else (if (lg_cmp (-z_3) 0) = 0 then (pe, wy, ru, rl) else (lt_ (f_Reckoner_push (va / (-z_3)) (vb / (-z_3)) pe ru rl) fun z_11 => (z_11.1, wy, z_11.2.1, z_11.2.2))))) else (if (lg_cmp (-z_3) 0) = 0 then (pe, wy, ru, rl) else (lt_ (f_Reckoner_push (va / (-z_3)) (vb / (-z_3)) pe ru rl) fun z_7 => (z_7.1, wy, z_7.2.1, z_7.2.2)))) else (if (lg_cmp z_3 (-1)) = 0 then (if (lg_cmp va (-9223372036854775808)) = 0 then (pe, 2, ru, rl) else (if (lg_cmp vb (-9223372036854775808)) = 0 then (pe, 2, ru, rl) else (if (lg_cmp z_3 0) = 0 then (pe, wy, ru, rl) else (lt_ (f_Reckoner_push (va / z_3) (vb / z_3) pe ru rl) fun z_18 => (z_18.1, wy, z_18.2.1, z_18.2.2))))) else (if (lg_cmp z_3 0) = 0 then (pe, wy, ru, rl) else (lt_ (f_Reckoner_push (va / z_3) (vb / z_3) pe ru rl) fun z_14 => (z_14.1, wy, z_14.2.1, z_14.2.2))))))) else (pe, wy, ru, rl))
abbrev q_Reckoner_settle (dC : Nat → ClassId) (dI : Nat → Nat → Nat) (cB cI cJ : ClassId) (oR aU aL : Nat) (va : Int64) (vb : Int64) (pe : Int32) (wy : Int32) (mi : Int64) (ru : (Nat → Int64)) (rl : (Nat → Int64)) (A : Nat → Prop) : Array Value → State → Outcome → State → Prop := va_Qv (fun u : Int32 × Int32 × (Nat → Int64) × (Nat → Int64) => u = f_Reckoner_settle va vb pe wy ru rl) (fun u t => va_P (dC, dI) vwCl [(oR, .inr (4, [.ref aU, .ref aL, .int u.1, .int u.2.1, .long mi])), (aU, .inl (cJ, 19, .inr (.inl u.2.2.1))), (aL, .inl (cJ, 19, .inr (.inl u.2.2.2)))] t.heap ∧ va_D A [(oR, .inr (4, [.ref aU, .ref aL, .int u.1, .int u.2.1, .long mi])), (aU, .inl (cJ, 19, .inr (.inl u.2.2.1))), (aL, .inl (cJ, 19, .inr (.inl u.2.2.2)))]) A
set_option maxHeartbeats 4000000 in
set_option maxRecDepth 100000 in
theorem c_Reckoner_settle (l : Launch) (dC : Nat → ClassId) (dI : Nat → Nat → Nat) (cB cI cJ : ClassId) (oR aU aL : Nat) (sz : Nat) (va : Int64) (vb : Int64) (pe : Int32) (wy : Int32) (mi : Int64) (ru : (Nat → Int64)) (rl : (Nat → Int64)) : Met l y_Reckoner_settle (cw_Reckoner_settle :: bgw) { frames := 1, cells := 0, slots := 0, locals := 30 } (va_Pc [.ref oR, .long va, .long vb] (kb_B dC dI cB cI cJ [(oR, .inr (4, [.ref aU, .ref aL, .int pe, .int wy, .long mi])), (aU, .inl (cJ, 19, .inr (.inl ru))), (aL, .inl (cJ, 19, .inr (.inl rl)))] sz)) (q_Reckoner_settle dC dI cB cI cJ oR aU aL va vb pe wy mi ru rl (va_A [(oR, .inr (4, [.ref aU, .ref aL, .int pe, .int wy, .long mi])), (aU, .inl (cJ, 19, .inr (.inl ru))), (aL, .inl (cJ, 19, .inr (.inl rl)))] sz)) 0 0 (va_A [(oR, .inr (4, [.ref aU, .ref aL, .int pe, .int wy, .long mi])), (aU, .inl (cJ, 19, .inr (.inl ru))), (aL, .inl (cJ, 19, .inr (.inl rl)))] sz) := by
  refine Met.ofW (cc := prog_6_method_12_code) (maxL := 9) (ret := none) (by decide) rfl ?_
  intro p e s m args below meth c s₁ B hml hv
  obtain ⟨rfl, hsz, hP, hKx, hD0⟩ := hv
  have hx := B.exec
  have hb := B.bytes
  have hr := B.returns
  have hts := atoms_spec (ws := (cw_Reckoner_settle :: bgw)) B.pre
  have hown : s.vm.findClass "PermitRules$Reckoner" = some m.cls := findClass_of_methodNamed B.named
  have hlocks := B.notSynchronized
  have htb := fun (w : Cond) (h : w ∈ bgw) => hts w (List.mem_cons_of_mem _ h)
  have hK := hKx.1
  subst hsz
  have hD := hD0.self (sz := s.heap.size)
  generalize hAe : va_A [(oR, .inr (4, [.ref aU, .ref aL, .int pe, .int wy, .long mi])), (aU, .inl (cJ, 19, .inr (.inl ru))), (aL, .inl (cJ, 19, .inr (.inl rl)))] s.heap.size = A at hD ⊢
  have hA : ∀ q : Nat, s.heap.size ≤ q → A q := fun q h => by rw [← hAe]; exact Or.inr h
  have hS : va_S A s.heap s.heap [] := va_S.rf
  have hl := lv_entry ([.ref oR, .long va, .long vb]) (n := 9) (Nat.le_of_ble_eq_true rfl)
  rw [lg_entry_eq]
  generalize (lg_sl ([.ref oR, .long va, .long vb]) ++ List.replicate (9 - (lg_sl ([.ref oR, .long va, .long vb])).length) Slot.unset).toArray = ls at hl ⊢
  have hl : lv_has ls 9 [(0, .ref oR), (1, .long va), (3, .long vb)] := hl
  have hP : va_P (dC, dI) vwCl [(oR, .inr (4, [.ref aU, .ref aL, .int pe, .int wy, .long mi])), (aU, .inl (cJ, 19, .inr (.inl ru))), (aL, .inl (cJ, 19, .inr (.inl rl)))] s.heap := hP
  have hF : f_Reckoner_settle va vb pe wy ru rl = (if wy = 0 then (if (lg_cmp vb 0) = 0 then (pe, wy, ru, rl) else (lt_ (f_Reckoner_commonDivisor va vb) fun z_3 => (if 0 ≤ (lg_cmp vb 0) then (if (lg_cmp (-z_3) (-1)) = 0 then (if (lg_cmp va (-9223372036854775808)) = 0 then (pe, 2, ru, rl) else (if (lg_cmp vb (-9223372036854775808)) = 0 then (pe, 2, ru, rl) else (if (lg_cmp (-z_3) 0) = 0 then (pe, wy, ru, rl) else (lt_ (f_Reckoner_push (va / (-z_3)) (vb / (-z_3)) pe ru rl) fun z_11 => (z_11.1, wy, z_11.2.1, z_11.2.2))))) else (if (lg_cmp (-z_3) 0) = 0 then (pe, wy, ru, rl) else (lt_ (f_Reckoner_push (va / (-z_3)) (vb / (-z_3)) pe ru rl) fun z_7 => (z_7.1, wy, z_7.2.1, z_7.2.2)))) else (if (lg_cmp z_3 (-1)) = 0 then (if (lg_cmp va (-9223372036854775808)) = 0 then (pe, 2, ru, rl) else (if (lg_cmp vb (-9223372036854775808)) = 0 then (pe, 2, ru, rl) else (if (lg_cmp z_3 0) = 0 then (pe, wy, ru, rl) else (lt_ (f_Reckoner_push (va / z_3) (vb / z_3) pe ru rl) fun z_18 => (z_18.1, wy, z_18.2.1, z_18.2.2))))) else (if (lg_cmp z_3 0) = 0 then (pe, wy, ru, rl) else (lt_ (f_Reckoner_push (va / z_3) (vb / z_3) pe ru rl) fun z_14 => (z_14.1, wy, z_14.2.1, z_14.2.2))))))) else (pe, wy, ru, rl)) := rfl
  refine lv_aload_n hx hb d_Reckoner_settle_0 rfl (lv_at hl 0 rfl) ?_
  refine va_get (D := (dC, dI)) (ci := 4) (v := .int wy) (C := "PermitRules$Reckoner") (T := T_Reckoner) (N := 5) hx hb htb in_Reckoner hown hK hP 0 rfl rfl 3 (by decide) (htb _ mb_101) (fun _ h9 => h9) rfl d_Reckoner_settle_1 ?_
  refine lv_if_ne (tgt := 13) hx hb d_Reckoner_settle_4 (by decide) (fun c_1 => ?_) (fun c_1 => ?_)
  · have hF := hF.trans (if_neg c_1)
    have hP9 := hP.sub (ws' := [(oR, .inr (4, [.ref aU, .ref aL, .int pe, .int wy, .long mi])), (aU, .inl (cJ, 19, .inr (.inl ru))), (aL, .inl (cJ, 19, .inr (.inl rl)))]) [0, 1, 2] rfl
    have hD9 := hD.sub (ws' := [(oR, .inr (4, [.ref aU, .ref aL, .int pe, .int wy, .long mi])), (aU, .inl (cJ, 19, .inr (.inl ru))), (aL, .inl (cJ, 19, .inr (.inl rl)))]) [0, 1, 2] (by decide) rfl
    exact W.vret hx hb hr (fun t ht hW => ⟨⟨(pe, wy, ru, rl), rfl, by rw [hF], by rw [ht]; exact hP9, hD9⟩, hS.F ht⟩) hS.2.2 d_Reckoner_settle_13
  · have hF := hF.trans (if_pos c_1)
    refine lv_lload_n hx hb d_Reckoner_settle_7 rfl (lv_at hl 2 rfl) ?_
    refine lv_lconst (v := 0) hx hb d_Reckoner_settle_8 (by decide) ?_
    refine W.lcmp hx hb d_Reckoner_settle_9 ?_
    refine lv_if_ne (tgt := 14) hx hb d_Reckoner_settle_10 (by decide) (fun c_2 => ?_) (fun c_2 => ?_)
    · have hF := hF.trans (if_neg c_2)
      refine lv_lload_n hx hb d_Reckoner_settle_14 rfl (lv_at hl 1 rfl) ?_
      refine lv_lload_n hx hb d_Reckoner_settle_15 rfl (lv_at hl 2 rfl) ?_
      have hPc := hP.sub (ws' := []) [] rfl
      have hDc := hD.sub (ws' := []) [] (by decide) rfl
      have hFc := va_free (wc := []) hD hS hA [] rfl
      refine va_calll (va_runS (As := [.long va, .long vb]) (rest := []) ⟨hx, hb, hml, hown, htb⟩ (c_Reckoner_commonDivisor l dC dI cB cI cJ  _ va vb ) ⟨callB_of 2 htb (gb_all mb_567) rfl rfl rfl (htb _ mb_7) (htb _ mb_565) (by decide +kernel) ⟨Nat.le_of_ble_eq_true rfl, Nat.le_of_ble_eq_true rfl⟩, htb _ mb_566⟩ ⟨kb_blind, kb_at hPc hDc hKx⟩ rfl rfl hl.1 rfl (lv_room (Nat.le_of_ble_eq_true rfl)) d_Reckoner_settle_16 ⟨Nat.le_of_ble_eq_true rfl, Nat.le_of_ble_eq_true rfl⟩) hS (fun q _ h => hFc q h) hFc (fun z_3 u t H1 locs ht hvm hw hB hz1 hk1 hS => ?_)
      have hz_3 := hw
      have hF := hF.trans (lt_e hz_3)
      obtain ⟨hP1, hD1⟩ := hB
      rw [ht] at hP1
      obtain ⟨hP, hD⟩ := va_join (wr := [(oR, .inr (4, [.ref aU, .ref aL, .int pe, .int wy, .long mi])), (aU, .inl (cJ, 19, .inr (.inl ru))), (aL, .inl (cJ, 19, .inr (.inl rl)))]) (w1 := []) hP hD [] [0, 1, 2] rfl rfl (by decide) (by decide) hk1 hFc hP1 hD1
      generalize H1 = H at hP hS ⊢
      have hP : va_P (dC, dI) vwCl [(oR, .inr (4, [.ref aU, .ref aL, .int pe, .int wy, .long mi])), (aU, .inl (cJ, 19, .inr (.inl ru))), (aL, .inl (cJ, 19, .inr (.inl rl)))] H := hP
      have hD : va_D A [(oR, .inr (4, [.ref aU, .ref aL, .int pe, .int wy, .long mi])), (aU, .inl (cJ, 19, .inr (.inl ru))), (aL, .inl (cJ, 19, .inr (.inl rl)))] := hD
      refine lv_lstore (lv' := [(5, .long z_3), (0, .ref oR), (1, .long va), (3, .long vb)]) hx hb d_Reckoner_settle_19 hl (by decide) rfl (fun ls hl => ?_)
      refine lv_lload_n hx hb d_Reckoner_settle_21 rfl (lv_at hl 3 rfl) ?_
      refine lv_lconst (v := 0) hx hb d_Reckoner_settle_22 (by decide) ?_
      refine W.lcmp hx hb d_Reckoner_settle_23 ?_
      refine lv_if_ge (tgt := 32) hx hb d_Reckoner_settle_24 (by decide) (fun c_4 => ?_) (fun c_4 => ?_)
      · have hF := hF.trans (if_pos c_4)
        refine lv_lload hx hb d_Reckoner_settle_32 (lv_at hl 0 rfl) ?_
        refine lv_lneg hx hb d_Reckoner_settle_34 ?_
        refine lv_lstore (lv' := [(7, .long (-z_3)), (5, .long z_3), (0, .ref oR), (1, .long va), (3, .long vb)]) hx hb d_Reckoner_settle_35 hl (by decide) rfl (fun ls hl => ?_)
        refine lv_lload hx hb d_Reckoner_settle_37 (lv_at hl 0 rfl) ?_
        refine lv_ldc2 (v := (-1)) hx hb hown (htb _ mb_559) d_Reckoner_settle_39 ?_
        refine W.lcmp hx hb d_Reckoner_settle_42 ?_
        refine lv_if_ne (tgt := 70) hx hb d_Reckoner_settle_43 (by decide) (fun c_5 => ?_) (fun c_5 => ?_)
        · have hF := hF.trans (if_neg c_5)
          refine lv_lload hx hb d_Reckoner_settle_70 (lv_at hl 0 rfl) ?_
          refine lv_lconst (v := 0) hx hb d_Reckoner_settle_72 (by decide) ?_
          refine W.lcmp hx hb d_Reckoner_settle_73 ?_
          refine lv_if_eq (tgt := 89) hx hb d_Reckoner_settle_74 (by decide) (fun c_6 => ?_) (fun c_6 => ?_)
          · have hF := hF.trans (if_pos c_6)
            have hP9 := hP.sub (ws' := [(oR, .inr (4, [.ref aU, .ref aL, .int pe, .int wy, .long mi])), (aU, .inl (cJ, 19, .inr (.inl ru))), (aL, .inl (cJ, 19, .inr (.inl rl)))]) [0, 1, 2] rfl
            have hD9 := hD.sub (ws' := [(oR, .inr (4, [.ref aU, .ref aL, .int pe, .int wy, .long mi])), (aU, .inl (cJ, 19, .inr (.inl ru))), (aL, .inl (cJ, 19, .inr (.inl rl)))]) [0, 1, 2] (by decide) rfl
            exact W.vret hx hb hr (fun t ht hW => ⟨⟨(pe, wy, ru, rl), rfl, by rw [hF], by rw [ht]; exact hP9, hD9⟩, hS.F ht⟩) hS.2.2 d_Reckoner_settle_89
          · have hF := hF.trans (if_neg c_6)
            refine lv_aload_n hx hb d_Reckoner_settle_77 rfl (lv_at hl 2 rfl) ?_
            refine lv_lload_n hx hb d_Reckoner_settle_78 rfl (lv_at hl 3 rfl) ?_
            refine lv_lload hx hb d_Reckoner_settle_79 (lv_at hl 0 rfl) ?_
            refine lv_ldiv hx hb d_Reckoner_settle_81 (oi_nz c_6) ?_
            refine lv_lload_n hx hb d_Reckoner_settle_82 rfl (lv_at hl 4 rfl) ?_
            refine lv_lload hx hb d_Reckoner_settle_83 (lv_at hl 0 rfl) ?_
            refine lv_ldiv hx hb d_Reckoner_settle_85 (oi_nz c_6) ?_
            have hPc := hP.sub (ws' := [(oR, .inr (4, [.ref aU, .ref aL, .int pe, .int wy, .long mi])), (aU, .inl (cJ, 19, .inr (.inl ru))), (aL, .inl (cJ, 19, .inr (.inl rl)))]) [0, 1, 2] rfl
            have hDc := hD.sub (ws' := [(oR, .inr (4, [.ref aU, .ref aL, .int pe, .int wy, .long mi])), (aU, .inl (cJ, 19, .inr (.inl ru))), (aL, .inl (cJ, 19, .inr (.inl rl)))]) [0, 1, 2] (by decide) rfl
            have hFc := va_free (wc := [(oR, .inr (4, [.ref aU, .ref aL, .int pe, .int wy, .long mi])), (aU, .inl (cJ, 19, .inr (.inl ru))), (aL, .inl (cJ, 19, .inr (.inl rl)))]) hD hS hA [0, 1, 2] rfl
            refine va_callv (va_runV (As := [.long (va / (-z_3)), .long (vb / (-z_3))]) (rest := []) ⟨hx, hb, hml, hown, htb⟩ (c_Reckoner_push l dC dI cB cI cJ oR aU aL _ (va / (-z_3)) (vb / (-z_3)) pe wy mi ru rl ) ⟨callB_of 2 htb (gb_all mb_536) rfl rfl rfl (htb _ mb_7) (htb _ mb_533) (by decide +kernel) ⟨Nat.le_of_ble_eq_true rfl, Nat.le_of_ble_eq_true rfl⟩, htb _ mb_535, htb _ mp_7⟩ ⟨kb_blind, va_recv hK hPc (ci := 4) (q0 := 0) rfl rfl, kb_at hPc hDc hKx⟩ rfl rfl hl.1 rfl (lv_room (Nat.le_of_ble_eq_true rfl)) d_Reckoner_settle_86 ⟨Nat.le_of_ble_eq_true rfl, Nat.le_of_ble_eq_true rfl⟩) hS (fun q _ h => hFc q h) hFc (fun z_7 t H1 locs ht hvm hw hB hz1 hk1 hS => ?_)
            have hz_7 := hw
            have hF := hF.trans (lt_e hz_7)
            obtain ⟨hP1, hD1⟩ := hB
            rw [ht] at hP1
            obtain ⟨hP, hD⟩ := va_join (wr := []) (w1 := [(oR, .inr (4, [.ref aU, .ref aL, .int z_7.1, .int wy, .long mi])), (aU, .inl (cJ, 19, .inr (.inl z_7.2.1))), (aL, .inl (cJ, 19, .inr (.inl z_7.2.2)))]) hP hD [0, 1, 2] [] rfl rfl (by decide) (by decide) hk1 hFc hP1 hD1
            generalize H1 = H at hP hS ⊢
            have hP : va_P (dC, dI) vwCl [(oR, .inr (4, [.ref aU, .ref aL, .int z_7.1, .int wy, .long mi])), (aU, .inl (cJ, 19, .inr (.inl z_7.2.1))), (aL, .inl (cJ, 19, .inr (.inl z_7.2.2)))] H := hP
            have hD : va_D A [(oR, .inr (4, [.ref aU, .ref aL, .int z_7.1, .int wy, .long mi])), (aU, .inl (cJ, 19, .inr (.inl z_7.2.1))), (aL, .inl (cJ, 19, .inr (.inl z_7.2.2)))] := hD
            have hP9 := hP.sub (ws' := [(oR, .inr (4, [.ref aU, .ref aL, .int z_7.1, .int wy, .long mi])), (aU, .inl (cJ, 19, .inr (.inl z_7.2.1))), (aL, .inl (cJ, 19, .inr (.inl z_7.2.2)))]) [0, 1, 2] rfl
            have hD9 := hD.sub (ws' := [(oR, .inr (4, [.ref aU, .ref aL, .int z_7.1, .int wy, .long mi])), (aU, .inl (cJ, 19, .inr (.inl z_7.2.1))), (aL, .inl (cJ, 19, .inr (.inl z_7.2.2)))]) [0, 1, 2] (by decide) rfl
            exact W.vret hx hb hr (fun t ht hW => ⟨⟨(z_7.1, wy, z_7.2.1, z_7.2.2), rfl, by rw [hF], by rw [ht]; exact hP9, hD9⟩, hS.F ht⟩) hS.2.2 d_Reckoner_settle_89
        · have hF := hF.trans (if_pos c_5)
          refine lv_lload_n hx hb d_Reckoner_settle_46 rfl (lv_at hl 3 rfl) ?_
          refine lv_ldc2 (v := (-9223372036854775808)) hx hb hown (htb _ mb_560) d_Reckoner_settle_47 ?_
          refine W.lcmp hx hb d_Reckoner_settle_50 ?_
          refine lv_if_eq (tgt := 62) hx hb d_Reckoner_settle_51 (by decide) (fun c_8 => ?_) (fun c_8 => ?_)
          · have hF := hF.trans (if_pos c_8)
            refine lv_aload_n hx hb d_Reckoner_settle_62 rfl (lv_at hl 2 rfl) ?_
            refine lv_iconst (v := 2) hx hb d_Reckoner_settle_63 (by decide) ?_
            refine va_put (D := (dC, dI)) (ci := 4) (v := .int 2) (ty := .int) (C := "PermitRules$Reckoner") (T := T_Reckoner) (N := 5) hx hb htb in_Reckoner ty_Reckoner to_Reckoner nm_Reckoner hown hK hP hD hS 0 rfl rfl 3 (by decide) (htb _ mb_101) (fun _ h9 => h9) rfl (by decide +kernel) rfl rfl (Nat.le_of_ble_eq_true rfl) d_Reckoner_settle_64 (fun H locs hP hD hS => ?_)
            have hP : va_P (dC, dI) vwCl [(oR, .inr (4, [.ref aU, .ref aL, .int pe, .int 2, .long mi])), (aU, .inl (cJ, 19, .inr (.inl ru))), (aL, .inl (cJ, 19, .inr (.inl rl)))] H := hP
            have hD : va_D A [(oR, .inr (4, [.ref aU, .ref aL, .int pe, .int 2, .long mi])), (aU, .inl (cJ, 19, .inr (.inl ru))), (aL, .inl (cJ, 19, .inr (.inl rl)))] := hD
            refine lv_goto (tgt := 89) hx hb d_Reckoner_settle_67 (by decide) ?_
            have hP9 := hP.sub (ws' := [(oR, .inr (4, [.ref aU, .ref aL, .int pe, .int 2, .long mi])), (aU, .inl (cJ, 19, .inr (.inl ru))), (aL, .inl (cJ, 19, .inr (.inl rl)))]) [0, 1, 2] rfl
            have hD9 := hD.sub (ws' := [(oR, .inr (4, [.ref aU, .ref aL, .int pe, .int 2, .long mi])), (aU, .inl (cJ, 19, .inr (.inl ru))), (aL, .inl (cJ, 19, .inr (.inl rl)))]) [0, 1, 2] (by decide) rfl
            exact W.vret hx hb hr (fun t ht hW => ⟨⟨(pe, 2, ru, rl), rfl, by rw [hF], by rw [ht]; exact hP9, hD9⟩, hS.F ht⟩) hS.2.2 d_Reckoner_settle_89
          · have hF := hF.trans (if_neg c_8)
            refine lv_lload_n hx hb d_Reckoner_settle_54 rfl (lv_at hl 4 rfl) ?_
            refine lv_ldc2 (v := (-9223372036854775808)) hx hb hown (htb _ mb_560) d_Reckoner_settle_55 ?_
            refine W.lcmp hx hb d_Reckoner_settle_58 ?_
            refine lv_if_ne (tgt := 70) hx hb d_Reckoner_settle_59 (by decide) (fun c_9 => ?_) (fun c_9 => ?_)
            · have hF := hF.trans (if_neg c_9)
              refine lv_lload hx hb d_Reckoner_settle_70 (lv_at hl 0 rfl) ?_
              refine lv_lconst (v := 0) hx hb d_Reckoner_settle_72 (by decide) ?_
              refine W.lcmp hx hb d_Reckoner_settle_73 ?_
              refine lv_if_eq (tgt := 89) hx hb d_Reckoner_settle_74 (by decide) (fun c_10 => ?_) (fun c_10 => ?_)
              · have hF := hF.trans (if_pos c_10)
                have hP9 := hP.sub (ws' := [(oR, .inr (4, [.ref aU, .ref aL, .int pe, .int wy, .long mi])), (aU, .inl (cJ, 19, .inr (.inl ru))), (aL, .inl (cJ, 19, .inr (.inl rl)))]) [0, 1, 2] rfl
                have hD9 := hD.sub (ws' := [(oR, .inr (4, [.ref aU, .ref aL, .int pe, .int wy, .long mi])), (aU, .inl (cJ, 19, .inr (.inl ru))), (aL, .inl (cJ, 19, .inr (.inl rl)))]) [0, 1, 2] (by decide) rfl
                exact W.vret hx hb hr (fun t ht hW => ⟨⟨(pe, wy, ru, rl), rfl, by rw [hF], by rw [ht]; exact hP9, hD9⟩, hS.F ht⟩) hS.2.2 d_Reckoner_settle_89
              · have hF := hF.trans (if_neg c_10)
                refine lv_aload_n hx hb d_Reckoner_settle_77 rfl (lv_at hl 2 rfl) ?_
                refine lv_lload_n hx hb d_Reckoner_settle_78 rfl (lv_at hl 3 rfl) ?_
                refine lv_lload hx hb d_Reckoner_settle_79 (lv_at hl 0 rfl) ?_
                refine lv_ldiv hx hb d_Reckoner_settle_81 (oi_nz c_10) ?_
                refine lv_lload_n hx hb d_Reckoner_settle_82 rfl (lv_at hl 4 rfl) ?_
                refine lv_lload hx hb d_Reckoner_settle_83 (lv_at hl 0 rfl) ?_
                refine lv_ldiv hx hb d_Reckoner_settle_85 (oi_nz c_10) ?_
                have hPc := hP.sub (ws' := [(oR, .inr (4, [.ref aU, .ref aL, .int pe, .int wy, .long mi])), (aU, .inl (cJ, 19, .inr (.inl ru))), (aL, .inl (cJ, 19, .inr (.inl rl)))]) [0, 1, 2] rfl
                have hDc := hD.sub (ws' := [(oR, .inr (4, [.ref aU, .ref aL, .int pe, .int wy, .long mi])), (aU, .inl (cJ, 19, .inr (.inl ru))), (aL, .inl (cJ, 19, .inr (.inl rl)))]) [0, 1, 2] (by decide) rfl
                have hFc := va_free (wc := [(oR, .inr (4, [.ref aU, .ref aL, .int pe, .int wy, .long mi])), (aU, .inl (cJ, 19, .inr (.inl ru))), (aL, .inl (cJ, 19, .inr (.inl rl)))]) hD hS hA [0, 1, 2] rfl
                refine va_callv (va_runV (As := [.long (va / (-z_3)), .long (vb / (-z_3))]) (rest := []) ⟨hx, hb, hml, hown, htb⟩ (c_Reckoner_push l dC dI cB cI cJ oR aU aL _ (va / (-z_3)) (vb / (-z_3)) pe wy mi ru rl ) ⟨callB_of 2 htb (gb_all mb_536) rfl rfl rfl (htb _ mb_7) (htb _ mb_533) (by decide +kernel) ⟨Nat.le_of_ble_eq_true rfl, Nat.le_of_ble_eq_true rfl⟩, htb _ mb_535, htb _ mp_7⟩ ⟨kb_blind, va_recv hK hPc (ci := 4) (q0 := 0) rfl rfl, kb_at hPc hDc hKx⟩ rfl rfl hl.1 rfl (lv_room (Nat.le_of_ble_eq_true rfl)) d_Reckoner_settle_86 ⟨Nat.le_of_ble_eq_true rfl, Nat.le_of_ble_eq_true rfl⟩) hS (fun q _ h => hFc q h) hFc (fun z_11 t H1 locs ht hvm hw hB hz1 hk1 hS => ?_)
                have hz_11 := hw
                have hF := hF.trans (lt_e hz_11)
                obtain ⟨hP1, hD1⟩ := hB
                rw [ht] at hP1
                obtain ⟨hP, hD⟩ := va_join (wr := []) (w1 := [(oR, .inr (4, [.ref aU, .ref aL, .int z_11.1, .int wy, .long mi])), (aU, .inl (cJ, 19, .inr (.inl z_11.2.1))), (aL, .inl (cJ, 19, .inr (.inl z_11.2.2)))]) hP hD [0, 1, 2] [] rfl rfl (by decide) (by decide) hk1 hFc hP1 hD1
                generalize H1 = H at hP hS ⊢
                have hP : va_P (dC, dI) vwCl [(oR, .inr (4, [.ref aU, .ref aL, .int z_11.1, .int wy, .long mi])), (aU, .inl (cJ, 19, .inr (.inl z_11.2.1))), (aL, .inl (cJ, 19, .inr (.inl z_11.2.2)))] H := hP
                have hD : va_D A [(oR, .inr (4, [.ref aU, .ref aL, .int z_11.1, .int wy, .long mi])), (aU, .inl (cJ, 19, .inr (.inl z_11.2.1))), (aL, .inl (cJ, 19, .inr (.inl z_11.2.2)))] := hD
                have hP9 := hP.sub (ws' := [(oR, .inr (4, [.ref aU, .ref aL, .int z_11.1, .int wy, .long mi])), (aU, .inl (cJ, 19, .inr (.inl z_11.2.1))), (aL, .inl (cJ, 19, .inr (.inl z_11.2.2)))]) [0, 1, 2] rfl
                have hD9 := hD.sub (ws' := [(oR, .inr (4, [.ref aU, .ref aL, .int z_11.1, .int wy, .long mi])), (aU, .inl (cJ, 19, .inr (.inl z_11.2.1))), (aL, .inl (cJ, 19, .inr (.inl z_11.2.2)))]) [0, 1, 2] (by decide) rfl
                exact W.vret hx hb hr (fun t ht hW => ⟨⟨(z_11.1, wy, z_11.2.1, z_11.2.2), rfl, by rw [hF], by rw [ht]; exact hP9, hD9⟩, hS.F ht⟩) hS.2.2 d_Reckoner_settle_89
            · have hF := hF.trans (if_pos c_9)
              refine lv_aload_n hx hb d_Reckoner_settle_62 rfl (lv_at hl 2 rfl) ?_
              refine lv_iconst (v := 2) hx hb d_Reckoner_settle_63 (by decide) ?_
              refine va_put (D := (dC, dI)) (ci := 4) (v := .int 2) (ty := .int) (C := "PermitRules$Reckoner") (T := T_Reckoner) (N := 5) hx hb htb in_Reckoner ty_Reckoner to_Reckoner nm_Reckoner hown hK hP hD hS 0 rfl rfl 3 (by decide) (htb _ mb_101) (fun _ h9 => h9) rfl (by decide +kernel) rfl rfl (Nat.le_of_ble_eq_true rfl) d_Reckoner_settle_64 (fun H locs hP hD hS => ?_)
              have hP : va_P (dC, dI) vwCl [(oR, .inr (4, [.ref aU, .ref aL, .int pe, .int 2, .long mi])), (aU, .inl (cJ, 19, .inr (.inl ru))), (aL, .inl (cJ, 19, .inr (.inl rl)))] H := hP
              have hD : va_D A [(oR, .inr (4, [.ref aU, .ref aL, .int pe, .int 2, .long mi])), (aU, .inl (cJ, 19, .inr (.inl ru))), (aL, .inl (cJ, 19, .inr (.inl rl)))] := hD
              refine lv_goto (tgt := 89) hx hb d_Reckoner_settle_67 (by decide) ?_
              have hP9 := hP.sub (ws' := [(oR, .inr (4, [.ref aU, .ref aL, .int pe, .int 2, .long mi])), (aU, .inl (cJ, 19, .inr (.inl ru))), (aL, .inl (cJ, 19, .inr (.inl rl)))]) [0, 1, 2] rfl
              have hD9 := hD.sub (ws' := [(oR, .inr (4, [.ref aU, .ref aL, .int pe, .int 2, .long mi])), (aU, .inl (cJ, 19, .inr (.inl ru))), (aL, .inl (cJ, 19, .inr (.inl rl)))]) [0, 1, 2] (by decide) rfl
              exact W.vret hx hb hr (fun t ht hW => ⟨⟨(pe, 2, ru, rl), rfl, by rw [hF], by rw [ht]; exact hP9, hD9⟩, hS.F ht⟩) hS.2.2 d_Reckoner_settle_89
      · have hF := hF.trans (if_neg c_4)
        refine lv_lload hx hb d_Reckoner_settle_27 (lv_at hl 0 rfl) ?_
        refine lv_goto (tgt := 35) hx hb d_Reckoner_settle_29 (by decide) ?_
        refine lv_lstore (lv' := [(7, .long z_3), (5, .long z_3), (0, .ref oR), (1, .long va), (3, .long vb)]) hx hb d_Reckoner_settle_35 hl (by decide) rfl (fun ls hl => ?_)
        refine lv_lload hx hb d_Reckoner_settle_37 (lv_at hl 0 rfl) ?_
        refine lv_ldc2 (v := (-1)) hx hb hown (htb _ mb_559) d_Reckoner_settle_39 ?_
        refine W.lcmp hx hb d_Reckoner_settle_42 ?_
        refine lv_if_ne (tgt := 70) hx hb d_Reckoner_settle_43 (by decide) (fun c_12 => ?_) (fun c_12 => ?_)
        · have hF := hF.trans (if_neg c_12)
          refine lv_lload hx hb d_Reckoner_settle_70 (lv_at hl 0 rfl) ?_
          refine lv_lconst (v := 0) hx hb d_Reckoner_settle_72 (by decide) ?_
          refine W.lcmp hx hb d_Reckoner_settle_73 ?_
          refine lv_if_eq (tgt := 89) hx hb d_Reckoner_settle_74 (by decide) (fun c_13 => ?_) (fun c_13 => ?_)
          · have hF := hF.trans (if_pos c_13)
            have hP9 := hP.sub (ws' := [(oR, .inr (4, [.ref aU, .ref aL, .int pe, .int wy, .long mi])), (aU, .inl (cJ, 19, .inr (.inl ru))), (aL, .inl (cJ, 19, .inr (.inl rl)))]) [0, 1, 2] rfl
            have hD9 := hD.sub (ws' := [(oR, .inr (4, [.ref aU, .ref aL, .int pe, .int wy, .long mi])), (aU, .inl (cJ, 19, .inr (.inl ru))), (aL, .inl (cJ, 19, .inr (.inl rl)))]) [0, 1, 2] (by decide) rfl
            exact W.vret hx hb hr (fun t ht hW => ⟨⟨(pe, wy, ru, rl), rfl, by rw [hF], by rw [ht]; exact hP9, hD9⟩, hS.F ht⟩) hS.2.2 d_Reckoner_settle_89
          · have hF := hF.trans (if_neg c_13)
            refine lv_aload_n hx hb d_Reckoner_settle_77 rfl (lv_at hl 2 rfl) ?_
            refine lv_lload_n hx hb d_Reckoner_settle_78 rfl (lv_at hl 3 rfl) ?_
            refine lv_lload hx hb d_Reckoner_settle_79 (lv_at hl 0 rfl) ?_
            refine lv_ldiv hx hb d_Reckoner_settle_81 (oi_nz c_13) ?_
            refine lv_lload_n hx hb d_Reckoner_settle_82 rfl (lv_at hl 4 rfl) ?_
            refine lv_lload hx hb d_Reckoner_settle_83 (lv_at hl 0 rfl) ?_
            refine lv_ldiv hx hb d_Reckoner_settle_85 (oi_nz c_13) ?_
            have hPc := hP.sub (ws' := [(oR, .inr (4, [.ref aU, .ref aL, .int pe, .int wy, .long mi])), (aU, .inl (cJ, 19, .inr (.inl ru))), (aL, .inl (cJ, 19, .inr (.inl rl)))]) [0, 1, 2] rfl
            have hDc := hD.sub (ws' := [(oR, .inr (4, [.ref aU, .ref aL, .int pe, .int wy, .long mi])), (aU, .inl (cJ, 19, .inr (.inl ru))), (aL, .inl (cJ, 19, .inr (.inl rl)))]) [0, 1, 2] (by decide) rfl
            have hFc := va_free (wc := [(oR, .inr (4, [.ref aU, .ref aL, .int pe, .int wy, .long mi])), (aU, .inl (cJ, 19, .inr (.inl ru))), (aL, .inl (cJ, 19, .inr (.inl rl)))]) hD hS hA [0, 1, 2] rfl
            refine va_callv (va_runV (As := [.long (va / z_3), .long (vb / z_3)]) (rest := []) ⟨hx, hb, hml, hown, htb⟩ (c_Reckoner_push l dC dI cB cI cJ oR aU aL _ (va / z_3) (vb / z_3) pe wy mi ru rl ) ⟨callB_of 2 htb (gb_all mb_536) rfl rfl rfl (htb _ mb_7) (htb _ mb_533) (by decide +kernel) ⟨Nat.le_of_ble_eq_true rfl, Nat.le_of_ble_eq_true rfl⟩, htb _ mb_535, htb _ mp_7⟩ ⟨kb_blind, va_recv hK hPc (ci := 4) (q0 := 0) rfl rfl, kb_at hPc hDc hKx⟩ rfl rfl hl.1 rfl (lv_room (Nat.le_of_ble_eq_true rfl)) d_Reckoner_settle_86 ⟨Nat.le_of_ble_eq_true rfl, Nat.le_of_ble_eq_true rfl⟩) hS (fun q _ h => hFc q h) hFc (fun z_14 t H1 locs ht hvm hw hB hz1 hk1 hS => ?_)
            have hz_14 := hw
            have hF := hF.trans (lt_e hz_14)
            obtain ⟨hP1, hD1⟩ := hB
            rw [ht] at hP1
            obtain ⟨hP, hD⟩ := va_join (wr := []) (w1 := [(oR, .inr (4, [.ref aU, .ref aL, .int z_14.1, .int wy, .long mi])), (aU, .inl (cJ, 19, .inr (.inl z_14.2.1))), (aL, .inl (cJ, 19, .inr (.inl z_14.2.2)))]) hP hD [0, 1, 2] [] rfl rfl (by decide) (by decide) hk1 hFc hP1 hD1
            generalize H1 = H at hP hS ⊢
            have hP : va_P (dC, dI) vwCl [(oR, .inr (4, [.ref aU, .ref aL, .int z_14.1, .int wy, .long mi])), (aU, .inl (cJ, 19, .inr (.inl z_14.2.1))), (aL, .inl (cJ, 19, .inr (.inl z_14.2.2)))] H := hP
            have hD : va_D A [(oR, .inr (4, [.ref aU, .ref aL, .int z_14.1, .int wy, .long mi])), (aU, .inl (cJ, 19, .inr (.inl z_14.2.1))), (aL, .inl (cJ, 19, .inr (.inl z_14.2.2)))] := hD
            have hP9 := hP.sub (ws' := [(oR, .inr (4, [.ref aU, .ref aL, .int z_14.1, .int wy, .long mi])), (aU, .inl (cJ, 19, .inr (.inl z_14.2.1))), (aL, .inl (cJ, 19, .inr (.inl z_14.2.2)))]) [0, 1, 2] rfl
            have hD9 := hD.sub (ws' := [(oR, .inr (4, [.ref aU, .ref aL, .int z_14.1, .int wy, .long mi])), (aU, .inl (cJ, 19, .inr (.inl z_14.2.1))), (aL, .inl (cJ, 19, .inr (.inl z_14.2.2)))]) [0, 1, 2] (by decide) rfl
            exact W.vret hx hb hr (fun t ht hW => ⟨⟨(z_14.1, wy, z_14.2.1, z_14.2.2), rfl, by rw [hF], by rw [ht]; exact hP9, hD9⟩, hS.F ht⟩) hS.2.2 d_Reckoner_settle_89
        · have hF := hF.trans (if_pos c_12)
          refine lv_lload_n hx hb d_Reckoner_settle_46 rfl (lv_at hl 3 rfl) ?_
          refine lv_ldc2 (v := (-9223372036854775808)) hx hb hown (htb _ mb_560) d_Reckoner_settle_47 ?_
          refine W.lcmp hx hb d_Reckoner_settle_50 ?_
          refine lv_if_eq (tgt := 62) hx hb d_Reckoner_settle_51 (by decide) (fun c_15 => ?_) (fun c_15 => ?_)
          · have hF := hF.trans (if_pos c_15)
            refine lv_aload_n hx hb d_Reckoner_settle_62 rfl (lv_at hl 2 rfl) ?_
            refine lv_iconst (v := 2) hx hb d_Reckoner_settle_63 (by decide) ?_
            refine va_put (D := (dC, dI)) (ci := 4) (v := .int 2) (ty := .int) (C := "PermitRules$Reckoner") (T := T_Reckoner) (N := 5) hx hb htb in_Reckoner ty_Reckoner to_Reckoner nm_Reckoner hown hK hP hD hS 0 rfl rfl 3 (by decide) (htb _ mb_101) (fun _ h9 => h9) rfl (by decide +kernel) rfl rfl (Nat.le_of_ble_eq_true rfl) d_Reckoner_settle_64 (fun H locs hP hD hS => ?_)
            have hP : va_P (dC, dI) vwCl [(oR, .inr (4, [.ref aU, .ref aL, .int pe, .int 2, .long mi])), (aU, .inl (cJ, 19, .inr (.inl ru))), (aL, .inl (cJ, 19, .inr (.inl rl)))] H := hP
            have hD : va_D A [(oR, .inr (4, [.ref aU, .ref aL, .int pe, .int 2, .long mi])), (aU, .inl (cJ, 19, .inr (.inl ru))), (aL, .inl (cJ, 19, .inr (.inl rl)))] := hD
            refine lv_goto (tgt := 89) hx hb d_Reckoner_settle_67 (by decide) ?_
            have hP9 := hP.sub (ws' := [(oR, .inr (4, [.ref aU, .ref aL, .int pe, .int 2, .long mi])), (aU, .inl (cJ, 19, .inr (.inl ru))), (aL, .inl (cJ, 19, .inr (.inl rl)))]) [0, 1, 2] rfl
            have hD9 := hD.sub (ws' := [(oR, .inr (4, [.ref aU, .ref aL, .int pe, .int 2, .long mi])), (aU, .inl (cJ, 19, .inr (.inl ru))), (aL, .inl (cJ, 19, .inr (.inl rl)))]) [0, 1, 2] (by decide) rfl
            exact W.vret hx hb hr (fun t ht hW => ⟨⟨(pe, 2, ru, rl), rfl, by rw [hF], by rw [ht]; exact hP9, hD9⟩, hS.F ht⟩) hS.2.2 d_Reckoner_settle_89
          · have hF := hF.trans (if_neg c_15)
            refine lv_lload_n hx hb d_Reckoner_settle_54 rfl (lv_at hl 4 rfl) ?_
            refine lv_ldc2 (v := (-9223372036854775808)) hx hb hown (htb _ mb_560) d_Reckoner_settle_55 ?_
            refine W.lcmp hx hb d_Reckoner_settle_58 ?_
            refine lv_if_ne (tgt := 70) hx hb d_Reckoner_settle_59 (by decide) (fun c_16 => ?_) (fun c_16 => ?_)
            · have hF := hF.trans (if_neg c_16)
              refine lv_lload hx hb d_Reckoner_settle_70 (lv_at hl 0 rfl) ?_
              refine lv_lconst (v := 0) hx hb d_Reckoner_settle_72 (by decide) ?_
              refine W.lcmp hx hb d_Reckoner_settle_73 ?_
              refine lv_if_eq (tgt := 89) hx hb d_Reckoner_settle_74 (by decide) (fun c_17 => ?_) (fun c_17 => ?_)
              · have hF := hF.trans (if_pos c_17)
                have hP9 := hP.sub (ws' := [(oR, .inr (4, [.ref aU, .ref aL, .int pe, .int wy, .long mi])), (aU, .inl (cJ, 19, .inr (.inl ru))), (aL, .inl (cJ, 19, .inr (.inl rl)))]) [0, 1, 2] rfl
                have hD9 := hD.sub (ws' := [(oR, .inr (4, [.ref aU, .ref aL, .int pe, .int wy, .long mi])), (aU, .inl (cJ, 19, .inr (.inl ru))), (aL, .inl (cJ, 19, .inr (.inl rl)))]) [0, 1, 2] (by decide) rfl
                exact W.vret hx hb hr (fun t ht hW => ⟨⟨(pe, wy, ru, rl), rfl, by rw [hF], by rw [ht]; exact hP9, hD9⟩, hS.F ht⟩) hS.2.2 d_Reckoner_settle_89
              · have hF := hF.trans (if_neg c_17)
                refine lv_aload_n hx hb d_Reckoner_settle_77 rfl (lv_at hl 2 rfl) ?_
                refine lv_lload_n hx hb d_Reckoner_settle_78 rfl (lv_at hl 3 rfl) ?_
                refine lv_lload hx hb d_Reckoner_settle_79 (lv_at hl 0 rfl) ?_
                refine lv_ldiv hx hb d_Reckoner_settle_81 (oi_nz c_17) ?_
                refine lv_lload_n hx hb d_Reckoner_settle_82 rfl (lv_at hl 4 rfl) ?_
                refine lv_lload hx hb d_Reckoner_settle_83 (lv_at hl 0 rfl) ?_
                refine lv_ldiv hx hb d_Reckoner_settle_85 (oi_nz c_17) ?_
                have hPc := hP.sub (ws' := [(oR, .inr (4, [.ref aU, .ref aL, .int pe, .int wy, .long mi])), (aU, .inl (cJ, 19, .inr (.inl ru))), (aL, .inl (cJ, 19, .inr (.inl rl)))]) [0, 1, 2] rfl
                have hDc := hD.sub (ws' := [(oR, .inr (4, [.ref aU, .ref aL, .int pe, .int wy, .long mi])), (aU, .inl (cJ, 19, .inr (.inl ru))), (aL, .inl (cJ, 19, .inr (.inl rl)))]) [0, 1, 2] (by decide) rfl
                have hFc := va_free (wc := [(oR, .inr (4, [.ref aU, .ref aL, .int pe, .int wy, .long mi])), (aU, .inl (cJ, 19, .inr (.inl ru))), (aL, .inl (cJ, 19, .inr (.inl rl)))]) hD hS hA [0, 1, 2] rfl
                refine va_callv (va_runV (As := [.long (va / z_3), .long (vb / z_3)]) (rest := []) ⟨hx, hb, hml, hown, htb⟩ (c_Reckoner_push l dC dI cB cI cJ oR aU aL _ (va / z_3) (vb / z_3) pe wy mi ru rl ) ⟨callB_of 2 htb (gb_all mb_536) rfl rfl rfl (htb _ mb_7) (htb _ mb_533) (by decide +kernel) ⟨Nat.le_of_ble_eq_true rfl, Nat.le_of_ble_eq_true rfl⟩, htb _ mb_535, htb _ mp_7⟩ ⟨kb_blind, va_recv hK hPc (ci := 4) (q0 := 0) rfl rfl, kb_at hPc hDc hKx⟩ rfl rfl hl.1 rfl (lv_room (Nat.le_of_ble_eq_true rfl)) d_Reckoner_settle_86 ⟨Nat.le_of_ble_eq_true rfl, Nat.le_of_ble_eq_true rfl⟩) hS (fun q _ h => hFc q h) hFc (fun z_18 t H1 locs ht hvm hw hB hz1 hk1 hS => ?_)
                have hz_18 := hw
                have hF := hF.trans (lt_e hz_18)
                obtain ⟨hP1, hD1⟩ := hB
                rw [ht] at hP1
                obtain ⟨hP, hD⟩ := va_join (wr := []) (w1 := [(oR, .inr (4, [.ref aU, .ref aL, .int z_18.1, .int wy, .long mi])), (aU, .inl (cJ, 19, .inr (.inl z_18.2.1))), (aL, .inl (cJ, 19, .inr (.inl z_18.2.2)))]) hP hD [0, 1, 2] [] rfl rfl (by decide) (by decide) hk1 hFc hP1 hD1
                generalize H1 = H at hP hS ⊢
                have hP : va_P (dC, dI) vwCl [(oR, .inr (4, [.ref aU, .ref aL, .int z_18.1, .int wy, .long mi])), (aU, .inl (cJ, 19, .inr (.inl z_18.2.1))), (aL, .inl (cJ, 19, .inr (.inl z_18.2.2)))] H := hP
                have hD : va_D A [(oR, .inr (4, [.ref aU, .ref aL, .int z_18.1, .int wy, .long mi])), (aU, .inl (cJ, 19, .inr (.inl z_18.2.1))), (aL, .inl (cJ, 19, .inr (.inl z_18.2.2)))] := hD
                have hP9 := hP.sub (ws' := [(oR, .inr (4, [.ref aU, .ref aL, .int z_18.1, .int wy, .long mi])), (aU, .inl (cJ, 19, .inr (.inl z_18.2.1))), (aL, .inl (cJ, 19, .inr (.inl z_18.2.2)))]) [0, 1, 2] rfl
                have hD9 := hD.sub (ws' := [(oR, .inr (4, [.ref aU, .ref aL, .int z_18.1, .int wy, .long mi])), (aU, .inl (cJ, 19, .inr (.inl z_18.2.1))), (aL, .inl (cJ, 19, .inr (.inl z_18.2.2)))]) [0, 1, 2] (by decide) rfl
                exact W.vret hx hb hr (fun t ht hW => ⟨⟨(z_18.1, wy, z_18.2.1, z_18.2.2), rfl, by rw [hF], by rw [ht]; exact hP9, hD9⟩, hS.F ht⟩) hS.2.2 d_Reckoner_settle_89
            · have hF := hF.trans (if_pos c_16)
              refine lv_aload_n hx hb d_Reckoner_settle_62 rfl (lv_at hl 2 rfl) ?_
              refine lv_iconst (v := 2) hx hb d_Reckoner_settle_63 (by decide) ?_
              refine va_put (D := (dC, dI)) (ci := 4) (v := .int 2) (ty := .int) (C := "PermitRules$Reckoner") (T := T_Reckoner) (N := 5) hx hb htb in_Reckoner ty_Reckoner to_Reckoner nm_Reckoner hown hK hP hD hS 0 rfl rfl 3 (by decide) (htb _ mb_101) (fun _ h9 => h9) rfl (by decide +kernel) rfl rfl (Nat.le_of_ble_eq_true rfl) d_Reckoner_settle_64 (fun H locs hP hD hS => ?_)
              have hP : va_P (dC, dI) vwCl [(oR, .inr (4, [.ref aU, .ref aL, .int pe, .int 2, .long mi])), (aU, .inl (cJ, 19, .inr (.inl ru))), (aL, .inl (cJ, 19, .inr (.inl rl)))] H := hP
              have hD : va_D A [(oR, .inr (4, [.ref aU, .ref aL, .int pe, .int 2, .long mi])), (aU, .inl (cJ, 19, .inr (.inl ru))), (aL, .inl (cJ, 19, .inr (.inl rl)))] := hD
              refine lv_goto (tgt := 89) hx hb d_Reckoner_settle_67 (by decide) ?_
              have hP9 := hP.sub (ws' := [(oR, .inr (4, [.ref aU, .ref aL, .int pe, .int 2, .long mi])), (aU, .inl (cJ, 19, .inr (.inl ru))), (aL, .inl (cJ, 19, .inr (.inl rl)))]) [0, 1, 2] rfl
              have hD9 := hD.sub (ws' := [(oR, .inr (4, [.ref aU, .ref aL, .int pe, .int 2, .long mi])), (aU, .inl (cJ, 19, .inr (.inl ru))), (aL, .inl (cJ, 19, .inr (.inl rl)))]) [0, 1, 2] (by decide) rfl
              exact W.vret hx hb hr (fun t ht hW => ⟨⟨(pe, 2, ru, rl), rfl, by rw [hF], by rw [ht]; exact hP9, hD9⟩, hS.F ht⟩) hS.2.2 d_Reckoner_settle_89
    · have hF := hF.trans (if_pos c_2)
      have hP9 := hP.sub (ws' := [(oR, .inr (4, [.ref aU, .ref aL, .int pe, .int wy, .long mi])), (aU, .inl (cJ, 19, .inr (.inl ru))), (aL, .inl (cJ, 19, .inr (.inl rl)))]) [0, 1, 2] rfl
      have hD9 := hD.sub (ws' := [(oR, .inr (4, [.ref aU, .ref aL, .int pe, .int wy, .long mi])), (aU, .inl (cJ, 19, .inr (.inl ru))), (aL, .inl (cJ, 19, .inr (.inl rl)))]) [0, 1, 2] (by decide) rfl
      exact W.vret hx hb hr (fun t ht hW => ⟨⟨(pe, wy, ru, rl), rfl, by rw [hF], by rw [ht]; exact hP9, hD9⟩, hS.F ht⟩) hS.2.2 d_Reckoner_settle_13
