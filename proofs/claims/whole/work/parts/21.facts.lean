def f_Facts_find_L2 (nm : Int64) (fz : Int32) (fn : (Nat → Int64)) : Nat → Int32 → Int32
  | 0, _ => 0
  | n + 1, i => (if fz ≤ i then (-1) else (if 40 ≤ i then (-1) else (if (lg_cmp (fn i.toNatClampNeg) nm) = 0 then i else (f_Facts_find_L2 nm fz fn n (i + 1)))))
theorem f_Facts_find_L2_s (nm : Int64) (fz : Int32) (fn : (Nat → Int64)) (n : Nat) (i : Int32) : f_Facts_find_L2 nm fz fn (n + 1) i = (if fz ≤ i then (-1) else (if 40 ≤ i then (-1) else (if (lg_cmp (fn i.toNatClampNeg) nm) = 0 then i else (f_Facts_find_L2 nm fz fn n (i + 1))))) := rfl
def f_Facts_find (nm : Int64) (fz : Int32) (fn : (Nat → Int64)) : Int32 := (f_Facts_find_L2 nm fz fn 41 0)
abbrev q_Facts_find (dC : Nat → ClassId) (dI : Nat → Nat → Nat) (cB cI cJ : ClassId) (oF aN aV : Nat) (nm : Int64) (fz : Int32) (fn : (Nat → Int64)) (fv : (Nat → Int32)) (A : Nat → Prop) : Array Value → State → Outcome → State → Prop := va_Qi (fun (r : Int32) (u : Unit) => r = f_Facts_find nm fz fn) (fun u t => va_P (dC, dI) vwCl [(oF, .inr (1, [.ref aN, .ref aV, .int fz])), (aN, .inl (cJ, 40, .inr (.inl fn))), (aV, .inl (cI, 40, .inl fv))] t.heap ∧ va_D A [(oF, .inr (1, [.ref aN, .ref aV, .int fz])), (aN, .inl (cJ, 40, .inr (.inl fn))), (aV, .inl (cI, 40, .inl fv))]) A
set_option maxHeartbeats 4000000 in
set_option maxRecDepth 100000 in
theorem c_Facts_find (l : Launch) (dC : Nat → ClassId) (dI : Nat → Nat → Nat) (cB cI cJ : ClassId) (oF aN aV : Nat) (sz : Nat) (nm : Int64) (fz : Int32) (fn : (Nat → Int64)) (fv : (Nat → Int32)) : Met l y_Facts_find (cw_Facts_find :: bgw) { frames := 0, cells := 0, slots := 0, locals := 0 } (va_Pc [.ref oF, .long nm] (kb_B dC dI cB cI cJ [(oF, .inr (1, [.ref aN, .ref aV, .int fz])), (aN, .inl (cJ, 40, .inr (.inl fn))), (aV, .inl (cI, 40, .inl fv))] sz)) (q_Facts_find dC dI cB cI cJ oF aN aV nm fz fn fv (va_A [(oF, .inr (1, [.ref aN, .ref aV, .int fz])), (aN, .inl (cJ, 40, .inr (.inl fn))), (aV, .inl (cI, 40, .inl fv))] sz)) 0 0 (va_A [(oF, .inr (1, [.ref aN, .ref aV, .int fz])), (aN, .inl (cJ, 40, .inr (.inl fn))), (aV, .inl (cI, 40, .inl fv))] sz) := by
  refine Met.ofW (cc := prog_3_method_2_code) (maxL := 4) (ret := (some .int)) (by decide) rfl ?_
  intro p e s m args below meth c s₁ B hml hv
  obtain ⟨rfl, hsz, hP, hKx, hD0⟩ := hv
  have hx := B.exec
  have hb := B.bytes
  have hr := B.returns
  have hts := atoms_spec (ws := (cw_Facts_find :: bgw)) B.pre
  have hown : s.vm.findClass "PermitRules$Facts" = some m.cls := findClass_of_methodNamed B.named
  have hlocks := B.notSynchronized
  have htb := fun (w : Cond) (h : w ∈ bgw) => hts w (List.mem_cons_of_mem _ h)
  have hK := hKx.1
  subst hsz
  have hD := hD0.self (sz := s.heap.size)
  generalize hAe : va_A [(oF, .inr (1, [.ref aN, .ref aV, .int fz])), (aN, .inl (cJ, 40, .inr (.inl fn))), (aV, .inl (cI, 40, .inl fv))] s.heap.size = A at hD ⊢
  have hA : ∀ q : Nat, s.heap.size ≤ q → A q := fun q h => by rw [← hAe]; exact Or.inr h
  have hS : va_S A s.heap s.heap [] := va_S.rf
  have hl := lv_entry ([.ref oF, .long nm]) (n := 4) (Nat.le_of_ble_eq_true rfl)
  rw [lg_entry_eq]
  generalize (lg_sl ([.ref oF, .long nm]) ++ List.replicate (4 - (lg_sl ([.ref oF, .long nm])).length) Slot.unset).toArray = ls at hl ⊢
  have hl : lv_has ls 4 [(0, .ref oF), (1, .long nm)] := hl
  have hP : va_P (dC, dI) vwCl [(oF, .inr (1, [.ref aN, .ref aV, .int fz])), (aN, .inl (cJ, 40, .inr (.inl fn))), (aV, .inl (cI, 40, .inl fv))] s.heap := hP
  have hF : f_Facts_find nm fz fn = (f_Facts_find_L2 nm fz fn 41 0) := rfl
  have lp2 : ∀ (n : Nat) (i : Int32), ¬ i < 0 → ((40 : Int) - i.toInt).toNat < n → f_Facts_find nm fz fn = f_Facts_find_L2 nm fz fn n i → ∀ (H : Heap) (locs : List Loc) (ls : Array Slot), va_P (dC, dI) vwCl [(oF, .inr (1, [.ref aN, .ref aV, .int fz])), (aN, .inl (cJ, 40, .inr (.inl fn))), (aV, .inl (cI, 40, .inl fv))] H → va_D A [(oF, .inr (1, [.ref aN, .ref aV, .int fz])), (aN, .inl (cJ, 40, .inr (.inl fn))), (aV, .inl (cI, 40, .inl fv))] → va_S A s.heap H locs → lv_has ls 4 [(3, .int i), (0, .ref oF), (1, .long nm)] → W p l e (headSpec (cw_Facts_find :: bgw) { frames := 0, cells := 0, slots := 0, locals := 0 }).room s m ([.ref oF, .long nm] : List Value).toArray below meth c H locs 0 0 (MQ below (q_Facts_find dC dI cB cI cJ oF aN aV nm fz fn fv A) ([.ref oF, .long nm] : List Value).toArray s 0 0 A) (F0 m 2 ls []) := by
    intro n
    induction n with
    | zero => intro i i0 hn; exact absurd hn (Nat.not_lt_zero _)
    | succ n ih =>
      intro i i0 hn hF H locs ls hP hD hS hl
      have hF := hF.trans (f_Facts_find_L2_s nm fz fn n i)
      refine lv_iload_n hx hb d_Facts_find_2 rfl (lv_at hl 0 rfl) ?_
      refine lv_aload_n hx hb d_Facts_find_3 rfl (lv_at hl 1 rfl) ?_
      refine va_get (D := (dC, dI)) (ci := 1) (v := .int fz) (C := "PermitRules$Facts") (T := T_Facts) (N := 3) hx hb htb in_Facts hown hK hP 0 rfl rfl 2 (by decide) (htb _ mb_77) (fun _ h9 => h9) rfl d_Facts_find_4 ?_
      refine lv_icmp_ge (tgt := 38) hx hb d_Facts_find_7 (by decide) (fun c_1 => ?_) (fun c_1 => ?_)
      · have hF := hF.trans (if_pos c_1)
        refine lv_iconst (v := (-1)) hx hb d_Facts_find_38 (by decide) ?_
        have hP9 := hP.sub (ws' := [(oF, .inr (1, [.ref aN, .ref aV, .int fz])), (aN, .inl (cJ, 40, .inr (.inl fn))), (aV, .inl (cI, 40, .inl fv))]) [0, 1, 2] rfl
        have hD9 := hD.sub (ws' := [(oF, .inr (1, [.ref aN, .ref aV, .int fz])), (aN, .inl (cJ, 40, .inr (.inl fn))), (aV, .inl (cI, 40, .inl fv))]) [0, 1, 2] (by decide) rfl
        exact W.iret (v := ((-1) : Int32)) hx hb hr (fun t ht hW => ⟨⟨((-1) : Int32), (), rfl, by rw [hF], by rw [ht]; exact hP9, hD9⟩, hS.F ht⟩) hS.2.2 d_Facts_find_39
      · have hF := hF.trans (if_neg c_1)
        refine lv_iload_n hx hb d_Facts_find_10 rfl (lv_at hl 0 rfl) ?_
        refine lv_aload_n hx hb d_Facts_find_11 rfl (lv_at hl 1 rfl) ?_
        refine va_get (D := (dC, dI)) (ci := 1) (v := .ref aN) (C := "PermitRules$Facts") (T := T_Facts) (N := 3) hx hb htb in_Facts hown hK hP 0 rfl rfl 0 (by decide) (htb _ mb_75) (fun _ h9 => h9) rfl d_Facts_find_12 ?_
        refine va_alen (v := 40) hx hb hK hP 1 2 rfl rfl (by rfl) d_Facts_find_15 ?_
        refine lv_icmp_ge (tgt := 38) hx hb d_Facts_find_16 (by decide) (fun c_2 => ?_) (fun c_2 => ?_)
        · have hF := hF.trans (if_pos c_2)
          refine lv_iconst (v := (-1)) hx hb d_Facts_find_38 (by decide) ?_
          have hP9 := hP.sub (ws' := [(oF, .inr (1, [.ref aN, .ref aV, .int fz])), (aN, .inl (cJ, 40, .inr (.inl fn))), (aV, .inl (cI, 40, .inl fv))]) [0, 1, 2] rfl
          have hD9 := hD.sub (ws' := [(oF, .inr (1, [.ref aN, .ref aV, .int fz])), (aN, .inl (cJ, 40, .inr (.inl fn))), (aV, .inl (cI, 40, .inl fv))]) [0, 1, 2] (by decide) rfl
          exact W.iret (v := ((-1) : Int32)) hx hb hr (fun t ht hW => ⟨⟨((-1) : Int32), (), rfl, by rw [hF], by rw [ht]; exact hP9, hD9⟩, hS.F ht⟩) hS.2.2 d_Facts_find_39
        · have hF := hF.trans (if_neg c_2)
          refine lv_aload_n hx hb d_Facts_find_19 rfl (lv_at hl 1 rfl) ?_
          refine va_get (D := (dC, dI)) (ci := 1) (v := .ref aN) (C := "PermitRules$Facts") (T := T_Facts) (N := 3) hx hb htb in_Facts hown hK hP 0 rfl rfl 0 (by decide) (htb _ mb_75) (fun _ h9 => h9) rfl d_Facts_find_20 ?_
          refine lv_iload_n hx hb d_Facts_find_23 rfl (lv_at hl 0 rfl) ?_
          refine va_lald hx hb hK hP 1 2 rfl rfl (oi_in (N := 40) (by decide) i0 c_2) d_Facts_find_24 ?_
          refine lv_lload_n hx hb d_Facts_find_25 rfl (lv_at hl 2 rfl) ?_
          refine W.lcmp hx hb d_Facts_find_26 ?_
          refine lv_if_ne (tgt := 32) hx hb d_Facts_find_27 (by decide) (fun c_3 => ?_) (fun c_3 => ?_)
          · have hF := hF.trans (if_neg c_3)
            refine lv_iinc (v := i + 1) (lv' := [(3, .int (i + 1)), (0, .ref oF), (1, .long nm)]) hx hb d_Facts_find_32 hl (k := 0) rfl (by first | rfl | decide) (by decide) rfl (fun ls hl => ?_)
            refine lv_goto (tgt := 2) hx hb d_Facts_find_35 (by decide) ?_
            exact ih (i + 1) (oi_s i0 c_2 (by decide) hn).1 (oi_s i0 c_2 (by decide) hn).2 hF _ _ _ (hP.sub [0, 1, 2] rfl) (hD.sub [0, 1, 2] (by decide) rfl) hS (lv_sub hl [0, 1, 2] rfl)
          · have hF := hF.trans (if_pos c_3)
            refine lv_iload_n hx hb d_Facts_find_30 rfl (lv_at hl 0 rfl) ?_
            have hP9 := hP.sub (ws' := [(oF, .inr (1, [.ref aN, .ref aV, .int fz])), (aN, .inl (cJ, 40, .inr (.inl fn))), (aV, .inl (cI, 40, .inl fv))]) [0, 1, 2] rfl
            have hD9 := hD.sub (ws' := [(oF, .inr (1, [.ref aN, .ref aV, .int fz])), (aN, .inl (cJ, 40, .inr (.inl fn))), (aV, .inl (cI, 40, .inl fv))]) [0, 1, 2] (by decide) rfl
            exact W.iret (v := i) hx hb hr (fun t ht hW => ⟨⟨i, (), rfl, by rw [hF], by rw [ht]; exact hP9, hD9⟩, hS.F ht⟩) hS.2.2 d_Facts_find_31
  refine lv_iconst (v := 0) hx hb d_Facts_find_0 (by decide) ?_
  refine lv_istore_n (lv' := [(3, .int 0), (0, .ref oF), (1, .long nm)]) hx hb d_Facts_find_1 rfl hl (by decide) rfl (fun ls hl => ?_)
  exact lp2 41 0 (by decide) (by decide) hF _ _ _ (hP.sub [0, 1, 2] rfl) (hD.sub [0, 1, 2] (by decide) rfl) hS (lv_sub hl [0, 1, 2] rfl)
def f_Facts_valueAt (sl : Int32) (fv : (Nat → Int32)) : Int32 := (if sl < 0 then 0 else (if 40 ≤ sl then 0 else fv sl.toNatClampNeg))
abbrev q_Facts_valueAt (dC : Nat → ClassId) (dI : Nat → Nat → Nat) (cB cI cJ : ClassId) (oF aN aV : Nat) (sl : Int32) (fz : Int32) (fn : (Nat → Int64)) (fv : (Nat → Int32)) (A : Nat → Prop) : Array Value → State → Outcome → State → Prop := va_Qi (fun (r : Int32) (u : Unit) => r = f_Facts_valueAt sl fv) (fun u t => va_P (dC, dI) vwCl [(oF, .inr (1, [.ref aN, .ref aV, .int fz])), (aN, .inl (cJ, 40, .inr (.inl fn))), (aV, .inl (cI, 40, .inl fv))] t.heap ∧ va_D A [(oF, .inr (1, [.ref aN, .ref aV, .int fz])), (aN, .inl (cJ, 40, .inr (.inl fn))), (aV, .inl (cI, 40, .inl fv))]) A
set_option maxHeartbeats 4000000 in
set_option maxRecDepth 100000 in
theorem c_Facts_valueAt (l : Launch) (dC : Nat → ClassId) (dI : Nat → Nat → Nat) (cB cI cJ : ClassId) (oF aN aV : Nat) (sz : Nat) (sl : Int32) (fz : Int32) (fn : (Nat → Int64)) (fv : (Nat → Int32)) : Met l y_Facts_valueAt (cw_Facts_valueAt :: bgw) { frames := 0, cells := 0, slots := 0, locals := 0 } (va_Pc [.ref oF, .int sl] (kb_B dC dI cB cI cJ [(oF, .inr (1, [.ref aN, .ref aV, .int fz])), (aN, .inl (cJ, 40, .inr (.inl fn))), (aV, .inl (cI, 40, .inl fv))] sz)) (q_Facts_valueAt dC dI cB cI cJ oF aN aV sl fz fn fv (va_A [(oF, .inr (1, [.ref aN, .ref aV, .int fz])), (aN, .inl (cJ, 40, .inr (.inl fn))), (aV, .inl (cI, 40, .inl fv))] sz)) 0 0 (va_A [(oF, .inr (1, [.ref aN, .ref aV, .int fz])), (aN, .inl (cJ, 40, .inr (.inl fn))), (aV, .inl (cI, 40, .inl fv))] sz) := by
  refine Met.ofW (cc := prog_3_method_3_code) (maxL := 2) (ret := (some .int)) (by decide) rfl ?_
  intro p e s m args below meth c s₁ B hml hv
  obtain ⟨rfl, hsz, hP, hKx, hD0⟩ := hv
  have hx := B.exec
  have hb := B.bytes
  have hr := B.returns
  have hts := atoms_spec (ws := (cw_Facts_valueAt :: bgw)) B.pre
  have hown : s.vm.findClass "PermitRules$Facts" = some m.cls := findClass_of_methodNamed B.named
  have hlocks := B.notSynchronized
  have htb := fun (w : Cond) (h : w ∈ bgw) => hts w (List.mem_cons_of_mem _ h)
  have hK := hKx.1
  subst hsz
  have hD := hD0.self (sz := s.heap.size)
  generalize hAe : va_A [(oF, .inr (1, [.ref aN, .ref aV, .int fz])), (aN, .inl (cJ, 40, .inr (.inl fn))), (aV, .inl (cI, 40, .inl fv))] s.heap.size = A at hD ⊢
  have hA : ∀ q : Nat, s.heap.size ≤ q → A q := fun q h => by rw [← hAe]; exact Or.inr h
  have hS : va_S A s.heap s.heap [] := va_S.rf
  have hl := lv_entry ([.ref oF, .int sl]) (n := 2) (Nat.le_of_ble_eq_true rfl)
  rw [lg_entry_eq]
  generalize (lg_sl ([.ref oF, .int sl]) ++ List.replicate (2 - (lg_sl ([.ref oF, .int sl])).length) Slot.unset).toArray = ls at hl ⊢
  have hl : lv_has ls 2 [(0, .ref oF), (1, .int sl)] := hl
  have hP : va_P (dC, dI) vwCl [(oF, .inr (1, [.ref aN, .ref aV, .int fz])), (aN, .inl (cJ, 40, .inr (.inl fn))), (aV, .inl (cI, 40, .inl fv))] s.heap := hP
  have hF : f_Facts_valueAt sl fv = (if sl < 0 then 0 else (if 40 ≤ sl then 0 else fv sl.toNatClampNeg)) := rfl
  refine lv_iload_n hx hb d_Facts_valueAt_0 rfl (lv_at hl 1 rfl) ?_
  refine lv_if_lt (tgt := 22) hx hb d_Facts_valueAt_1 (by decide) (fun c_1 => ?_) (fun c_1 => ?_)
  · have hF := hF.trans (if_pos c_1)
    refine lv_iconst (v := 0) hx hb d_Facts_valueAt_22 (by decide) ?_
    have hP9 := hP.sub (ws' := [(oF, .inr (1, [.ref aN, .ref aV, .int fz])), (aN, .inl (cJ, 40, .inr (.inl fn))), (aV, .inl (cI, 40, .inl fv))]) [0, 1, 2] rfl
    have hD9 := hD.sub (ws' := [(oF, .inr (1, [.ref aN, .ref aV, .int fz])), (aN, .inl (cJ, 40, .inr (.inl fn))), (aV, .inl (cI, 40, .inl fv))]) [0, 1, 2] (by decide) rfl
    exact W.iret (v := (0 : Int32)) hx hb hr (fun t ht hW => ⟨⟨(0 : Int32), (), rfl, by rw [hF], by rw [ht]; exact hP9, hD9⟩, hS.F ht⟩) hS.2.2 d_Facts_valueAt_23
  · have hF := hF.trans (if_neg c_1)
    refine lv_iload_n hx hb d_Facts_valueAt_4 rfl (lv_at hl 1 rfl) ?_
    refine lv_aload_n hx hb d_Facts_valueAt_5 rfl (lv_at hl 0 rfl) ?_
    refine va_get (D := (dC, dI)) (ci := 1) (v := .ref aV) (C := "PermitRules$Facts") (T := T_Facts) (N := 3) hx hb htb in_Facts hown hK hP 0 rfl rfl 1 (by decide) (htb _ mb_76) (fun _ h9 => h9) rfl d_Facts_valueAt_6 ?_
    refine va_alen (v := 40) hx hb hK hP 2 1 rfl rfl (by rfl) d_Facts_valueAt_9 ?_
    refine lv_icmp_ge (tgt := 22) hx hb d_Facts_valueAt_10 (by decide) (fun c_2 => ?_) (fun c_2 => ?_)
    · have hF := hF.trans (if_pos c_2)
      refine lv_iconst (v := 0) hx hb d_Facts_valueAt_22 (by decide) ?_
      have hP9 := hP.sub (ws' := [(oF, .inr (1, [.ref aN, .ref aV, .int fz])), (aN, .inl (cJ, 40, .inr (.inl fn))), (aV, .inl (cI, 40, .inl fv))]) [0, 1, 2] rfl
      have hD9 := hD.sub (ws' := [(oF, .inr (1, [.ref aN, .ref aV, .int fz])), (aN, .inl (cJ, 40, .inr (.inl fn))), (aV, .inl (cI, 40, .inl fv))]) [0, 1, 2] (by decide) rfl
      exact W.iret (v := (0 : Int32)) hx hb hr (fun t ht hW => ⟨⟨(0 : Int32), (), rfl, by rw [hF], by rw [ht]; exact hP9, hD9⟩, hS.F ht⟩) hS.2.2 d_Facts_valueAt_23
    · have hF := hF.trans (if_neg c_2)
      refine lv_aload_n hx hb d_Facts_valueAt_13 rfl (lv_at hl 0 rfl) ?_
      refine va_get (D := (dC, dI)) (ci := 1) (v := .ref aV) (C := "PermitRules$Facts") (T := T_Facts) (N := 3) hx hb htb in_Facts hown hK hP 0 rfl rfl 1 (by decide) (htb _ mb_76) (fun _ h9 => h9) rfl d_Facts_valueAt_14 ?_
      refine lv_iload_n hx hb d_Facts_valueAt_17 rfl (lv_at hl 1 rfl) ?_
      refine va_iald hx hb hK hP 2 1 rfl rfl (oi_in (N := 40) (by decide) c_1 c_2) d_Facts_valueAt_18 ?_
      refine lv_goto (tgt := 23) hx hb d_Facts_valueAt_19 (by decide) ?_
      have hP9 := hP.sub (ws' := [(oF, .inr (1, [.ref aN, .ref aV, .int fz])), (aN, .inl (cJ, 40, .inr (.inl fn))), (aV, .inl (cI, 40, .inl fv))]) [0, 1, 2] rfl
      have hD9 := hD.sub (ws' := [(oF, .inr (1, [.ref aN, .ref aV, .int fz])), (aN, .inl (cJ, 40, .inr (.inl fn))), (aV, .inl (cI, 40, .inl fv))]) [0, 1, 2] (by decide) rfl
      exact W.iret (v := fv sl.toNatClampNeg) hx hb hr (fun t ht hW => ⟨⟨fv sl.toNatClampNeg, (), rfl, by rw [hF], by rw [ht]; exact hP9, hD9⟩, hS.F ht⟩) hS.2.2 d_Facts_valueAt_23
def f_Facts_change (sl : Int32) (vl : Int32) (fv : (Nat → Int32)) : (Nat → Int32) := (if sl < 0 then fv else (if 40 ≤ sl then fv else upd fv sl.toNatClampNeg vl))
abbrev q_Facts_change (dC : Nat → ClassId) (dI : Nat → Nat → Nat) (cB cI cJ : ClassId) (oF aN aV : Nat) (sl : Int32) (vl : Int32) (fz : Int32) (fn : (Nat → Int64)) (fv : (Nat → Int32)) (A : Nat → Prop) : Array Value → State → Outcome → State → Prop := va_Qv (fun u : (Nat → Int32) => u = f_Facts_change sl vl fv) (fun u t => va_P (dC, dI) vwCl [(oF, .inr (1, [.ref aN, .ref aV, .int fz])), (aN, .inl (cJ, 40, .inr (.inl fn))), (aV, .inl (cI, 40, .inl u))] t.heap ∧ va_D A [(oF, .inr (1, [.ref aN, .ref aV, .int fz])), (aN, .inl (cJ, 40, .inr (.inl fn))), (aV, .inl (cI, 40, .inl u))]) A
set_option maxHeartbeats 4000000 in
set_option maxRecDepth 100000 in
theorem c_Facts_change (l : Launch) (dC : Nat → ClassId) (dI : Nat → Nat → Nat) (cB cI cJ : ClassId) (oF aN aV : Nat) (sz : Nat) (sl : Int32) (vl : Int32) (fz : Int32) (fn : (Nat → Int64)) (fv : (Nat → Int32)) : Met l y_Facts_change (cw_Facts_change :: bgw) { frames := 0, cells := 0, slots := 0, locals := 0 } (va_Pc [.ref oF, .int sl, .int vl] (kb_B dC dI cB cI cJ [(oF, .inr (1, [.ref aN, .ref aV, .int fz])), (aN, .inl (cJ, 40, .inr (.inl fn))), (aV, .inl (cI, 40, .inl fv))] sz)) (q_Facts_change dC dI cB cI cJ oF aN aV sl vl fz fn fv (va_A [(oF, .inr (1, [.ref aN, .ref aV, .int fz])), (aN, .inl (cJ, 40, .inr (.inl fn))), (aV, .inl (cI, 40, .inl fv))] sz)) 0 0 (va_A [(oF, .inr (1, [.ref aN, .ref aV, .int fz])), (aN, .inl (cJ, 40, .inr (.inl fn))), (aV, .inl (cI, 40, .inl fv))] sz) := by
  refine Met.ofW (cc := prog_3_method_4_code) (maxL := 3) (ret := none) (by decide) rfl ?_
  intro p e s m args below meth c s₁ B hml hv
  obtain ⟨rfl, hsz, hP, hKx, hD0⟩ := hv
  have hx := B.exec
  have hb := B.bytes
  have hr := B.returns
  have hts := atoms_spec (ws := (cw_Facts_change :: bgw)) B.pre
  have hown : s.vm.findClass "PermitRules$Facts" = some m.cls := findClass_of_methodNamed B.named
  have hlocks := B.notSynchronized
  have htb := fun (w : Cond) (h : w ∈ bgw) => hts w (List.mem_cons_of_mem _ h)
  have hK := hKx.1
  subst hsz
  have hD := hD0.self (sz := s.heap.size)
  generalize hAe : va_A [(oF, .inr (1, [.ref aN, .ref aV, .int fz])), (aN, .inl (cJ, 40, .inr (.inl fn))), (aV, .inl (cI, 40, .inl fv))] s.heap.size = A at hD ⊢
  have hA : ∀ q : Nat, s.heap.size ≤ q → A q := fun q h => by rw [← hAe]; exact Or.inr h
  have hS : va_S A s.heap s.heap [] := va_S.rf
  have hl := lv_entry ([.ref oF, .int sl, .int vl]) (n := 3) (Nat.le_of_ble_eq_true rfl)
  rw [lg_entry_eq]
  generalize (lg_sl ([.ref oF, .int sl, .int vl]) ++ List.replicate (3 - (lg_sl ([.ref oF, .int sl, .int vl])).length) Slot.unset).toArray = ls at hl ⊢
  have hl : lv_has ls 3 [(0, .ref oF), (1, .int sl), (2, .int vl)] := hl
  have hP : va_P (dC, dI) vwCl [(oF, .inr (1, [.ref aN, .ref aV, .int fz])), (aN, .inl (cJ, 40, .inr (.inl fn))), (aV, .inl (cI, 40, .inl fv))] s.heap := hP
  have hF : f_Facts_change sl vl fv = (if sl < 0 then fv else (if 40 ≤ sl then fv else upd fv sl.toNatClampNeg vl)) := rfl
  refine lv_iload_n hx hb d_Facts_change_0 rfl (lv_at hl 1 rfl) ?_
  refine lv_if_lt (tgt := 20) hx hb d_Facts_change_1 (by decide) (fun c_1 => ?_) (fun c_1 => ?_)
  · have hF := hF.trans (if_pos c_1)
    have hP9 := hP.sub (ws' := [(oF, .inr (1, [.ref aN, .ref aV, .int fz])), (aN, .inl (cJ, 40, .inr (.inl fn))), (aV, .inl (cI, 40, .inl fv))]) [0, 1, 2] rfl
    have hD9 := hD.sub (ws' := [(oF, .inr (1, [.ref aN, .ref aV, .int fz])), (aN, .inl (cJ, 40, .inr (.inl fn))), (aV, .inl (cI, 40, .inl fv))]) [0, 1, 2] (by decide) rfl
    exact W.vret hx hb hr (fun t ht hW => ⟨⟨fv, rfl, by rw [hF], by rw [ht]; exact hP9, hD9⟩, hS.F ht⟩) hS.2.2 d_Facts_change_20
  · have hF := hF.trans (if_neg c_1)
    refine lv_iload_n hx hb d_Facts_change_4 rfl (lv_at hl 1 rfl) ?_
    refine lv_aload_n hx hb d_Facts_change_5 rfl (lv_at hl 0 rfl) ?_
    refine va_get (D := (dC, dI)) (ci := 1) (v := .ref aV) (C := "PermitRules$Facts") (T := T_Facts) (N := 3) hx hb htb in_Facts hown hK hP 0 rfl rfl 1 (by decide) (htb _ mb_76) (fun _ h9 => h9) rfl d_Facts_change_6 ?_
    refine va_alen (v := 40) hx hb hK hP 2 1 rfl rfl (by rfl) d_Facts_change_9 ?_
    refine lv_icmp_ge (tgt := 20) hx hb d_Facts_change_10 (by decide) (fun c_2 => ?_) (fun c_2 => ?_)
    · have hF := hF.trans (if_pos c_2)
      have hP9 := hP.sub (ws' := [(oF, .inr (1, [.ref aN, .ref aV, .int fz])), (aN, .inl (cJ, 40, .inr (.inl fn))), (aV, .inl (cI, 40, .inl fv))]) [0, 1, 2] rfl
      have hD9 := hD.sub (ws' := [(oF, .inr (1, [.ref aN, .ref aV, .int fz])), (aN, .inl (cJ, 40, .inr (.inl fn))), (aV, .inl (cI, 40, .inl fv))]) [0, 1, 2] (by decide) rfl
      exact W.vret hx hb hr (fun t ht hW => ⟨⟨fv, rfl, by rw [hF], by rw [ht]; exact hP9, hD9⟩, hS.F ht⟩) hS.2.2 d_Facts_change_20
    · have hF := hF.trans (if_neg c_2)
      refine lv_aload_n hx hb d_Facts_change_13 rfl (lv_at hl 0 rfl) ?_
      refine va_get (D := (dC, dI)) (ci := 1) (v := .ref aV) (C := "PermitRules$Facts") (T := T_Facts) (N := 3) hx hb htb in_Facts hown hK hP 0 rfl rfl 1 (by decide) (htb _ mb_76) (fun _ h9 => h9) rfl d_Facts_change_14 ?_
      refine lv_iload_n hx hb d_Facts_change_17 rfl (lv_at hl 1 rfl) ?_
      refine lv_iload_n hx hb d_Facts_change_18 rfl (lv_at hl 2 rfl) ?_
      refine va_iast hx hb hK hP hD hS 2 1 rfl rfl (oi_in (N := 40) (by decide) c_1 c_2) d_Facts_change_19 (fun H locs hP hD hS => ?_)
      have hP : va_P (dC, dI) vwCl [(oF, .inr (1, [.ref aN, .ref aV, .int fz])), (aN, .inl (cJ, 40, .inr (.inl fn))), (aV, .inl (cI, 40, .inl (upd fv sl.toNatClampNeg vl)))] H := hP
      have hD : va_D A [(oF, .inr (1, [.ref aN, .ref aV, .int fz])), (aN, .inl (cJ, 40, .inr (.inl fn))), (aV, .inl (cI, 40, .inl (upd fv sl.toNatClampNeg vl)))] := hD
      have hP9 := hP.sub (ws' := [(oF, .inr (1, [.ref aN, .ref aV, .int fz])), (aN, .inl (cJ, 40, .inr (.inl fn))), (aV, .inl (cI, 40, .inl (upd fv sl.toNatClampNeg vl)))]) [0, 1, 2] rfl
      have hD9 := hD.sub (ws' := [(oF, .inr (1, [.ref aN, .ref aV, .int fz])), (aN, .inl (cJ, 40, .inr (.inl fn))), (aV, .inl (cI, 40, .inl (upd fv sl.toNatClampNeg vl)))]) [0, 1, 2] (by decide) rfl
      exact W.vret hx hb hr (fun t ht hW => ⟨⟨upd fv sl.toNatClampNeg vl, rfl, by rw [hF], by rw [ht]; exact hP9, hD9⟩, hS.F ht⟩) hS.2.2 d_Facts_change_20
def f_Facts_add (nm : Int64) (vl : Int32) (fz : Int32) (fn : (Nat → Int64)) (fv : (Nat → Int32)) : Int32 × (Nat → Int64) × (Nat → Int32) := (if fz < 0 then (fz, fn, fv) else (if 40 ≤ fz then (fz, fn, fv) else (if 40 ≤ fz then (fz, fn, fv) else (fz + 1, vp_updL fn fz.toNatClampNeg nm, upd fv fz.toNatClampNeg vl))))
abbrev q_Facts_add (dC : Nat → ClassId) (dI : Nat → Nat → Nat) (cB cI cJ : ClassId) (oF aN aV : Nat) (nm : Int64) (vl : Int32) (fz : Int32) (fn : (Nat → Int64)) (fv : (Nat → Int32)) (A : Nat → Prop) : Array Value → State → Outcome → State → Prop := va_Qv (fun u : Int32 × (Nat → Int64) × (Nat → Int32) => u = f_Facts_add nm vl fz fn fv) (fun u t => va_P (dC, dI) vwCl [(oF, .inr (1, [.ref aN, .ref aV, .int u.1])), (aN, .inl (cJ, 40, .inr (.inl u.2.1))), (aV, .inl (cI, 40, .inl u.2.2))] t.heap ∧ va_D A [(oF, .inr (1, [.ref aN, .ref aV, .int u.1])), (aN, .inl (cJ, 40, .inr (.inl u.2.1))), (aV, .inl (cI, 40, .inl u.2.2))]) A
set_option maxHeartbeats 4000000 in
set_option maxRecDepth 100000 in
theorem c_Facts_add (l : Launch) (dC : Nat → ClassId) (dI : Nat → Nat → Nat) (cB cI cJ : ClassId) (oF aN aV : Nat) (sz : Nat) (nm : Int64) (vl : Int32) (fz : Int32) (fn : (Nat → Int64)) (fv : (Nat → Int32)) : Met l y_Facts_add (cw_Facts_add :: bgw) { frames := 0, cells := 0, slots := 0, locals := 0 } (va_Pc [.ref oF, .long nm, .int vl] (kb_B dC dI cB cI cJ [(oF, .inr (1, [.ref aN, .ref aV, .int fz])), (aN, .inl (cJ, 40, .inr (.inl fn))), (aV, .inl (cI, 40, .inl fv))] sz)) (q_Facts_add dC dI cB cI cJ oF aN aV nm vl fz fn fv (va_A [(oF, .inr (1, [.ref aN, .ref aV, .int fz])), (aN, .inl (cJ, 40, .inr (.inl fn))), (aV, .inl (cI, 40, .inl fv))] sz)) 0 0 (va_A [(oF, .inr (1, [.ref aN, .ref aV, .int fz])), (aN, .inl (cJ, 40, .inr (.inl fn))), (aV, .inl (cI, 40, .inl fv))] sz) := by
  refine Met.ofW (cc := prog_3_method_5_code) (maxL := 4) (ret := none) (by decide) rfl ?_
  intro p e s m args below meth c s₁ B hml hv
  obtain ⟨rfl, hsz, hP, hKx, hD0⟩ := hv
  have hx := B.exec
  have hb := B.bytes
  have hr := B.returns
  have hts := atoms_spec (ws := (cw_Facts_add :: bgw)) B.pre
  have hown : s.vm.findClass "PermitRules$Facts" = some m.cls := findClass_of_methodNamed B.named
  have hlocks := B.notSynchronized
  have htb := fun (w : Cond) (h : w ∈ bgw) => hts w (List.mem_cons_of_mem _ h)
  have hK := hKx.1
  subst hsz
  have hD := hD0.self (sz := s.heap.size)
  generalize hAe : va_A [(oF, .inr (1, [.ref aN, .ref aV, .int fz])), (aN, .inl (cJ, 40, .inr (.inl fn))), (aV, .inl (cI, 40, .inl fv))] s.heap.size = A at hD ⊢
  have hA : ∀ q : Nat, s.heap.size ≤ q → A q := fun q h => by rw [← hAe]; exact Or.inr h
  have hS : va_S A s.heap s.heap [] := va_S.rf
  have hl := lv_entry ([.ref oF, .long nm, .int vl]) (n := 4) (Nat.le_of_ble_eq_true rfl)
  rw [lg_entry_eq]
  generalize (lg_sl ([.ref oF, .long nm, .int vl]) ++ List.replicate (4 - (lg_sl ([.ref oF, .long nm, .int vl])).length) Slot.unset).toArray = ls at hl ⊢
  have hl : lv_has ls 4 [(0, .ref oF), (1, .long nm), (3, .int vl)] := hl
  have hP : va_P (dC, dI) vwCl [(oF, .inr (1, [.ref aN, .ref aV, .int fz])), (aN, .inl (cJ, 40, .inr (.inl fn))), (aV, .inl (cI, 40, .inl fv))] s.heap := hP
  have hF : f_Facts_add nm vl fz fn fv = (if fz < 0 then (fz, fn, fv) else (if 40 ≤ fz then (fz, fn, fv) else (if 40 ≤ fz then (fz, fn, fv) else (fz + 1, vp_updL fn fz.toNatClampNeg nm, upd fv fz.toNatClampNeg vl)))) := rfl
  refine lv_aload_n hx hb d_Facts_add_0 rfl (lv_at hl 0 rfl) ?_
  refine va_get (D := (dC, dI)) (ci := 1) (v := .int fz) (C := "PermitRules$Facts") (T := T_Facts) (N := 3) hx hb htb in_Facts hown hK hP 0 rfl rfl 2 (by decide) (htb _ mb_77) (fun _ h9 => h9) rfl d_Facts_add_1 ?_
  refine lv_if_lt (tgt := 61) hx hb d_Facts_add_4 (by decide) (fun c_1 => ?_) (fun c_1 => ?_)
  · have hF := hF.trans (if_pos c_1)
    have hP9 := hP.sub (ws' := [(oF, .inr (1, [.ref aN, .ref aV, .int fz])), (aN, .inl (cJ, 40, .inr (.inl fn))), (aV, .inl (cI, 40, .inl fv))]) [0, 1, 2] rfl
    have hD9 := hD.sub (ws' := [(oF, .inr (1, [.ref aN, .ref aV, .int fz])), (aN, .inl (cJ, 40, .inr (.inl fn))), (aV, .inl (cI, 40, .inl fv))]) [0, 1, 2] (by decide) rfl
    exact W.vret hx hb hr (fun t ht hW => ⟨⟨(fz, fn, fv), rfl, by rw [hF], by rw [ht]; exact hP9, hD9⟩, hS.F ht⟩) hS.2.2 d_Facts_add_61
  · have hF := hF.trans (if_neg c_1)
    refine lv_aload_n hx hb d_Facts_add_7 rfl (lv_at hl 0 rfl) ?_
    refine va_get (D := (dC, dI)) (ci := 1) (v := .int fz) (C := "PermitRules$Facts") (T := T_Facts) (N := 3) hx hb htb in_Facts hown hK hP 0 rfl rfl 2 (by decide) (htb _ mb_77) (fun _ h9 => h9) rfl d_Facts_add_8 ?_
    refine lv_aload_n hx hb d_Facts_add_11 rfl (lv_at hl 0 rfl) ?_
    refine va_get (D := (dC, dI)) (ci := 1) (v := .ref aN) (C := "PermitRules$Facts") (T := T_Facts) (N := 3) hx hb htb in_Facts hown hK hP 0 rfl rfl 0 (by decide) (htb _ mb_75) (fun _ h9 => h9) rfl d_Facts_add_12 ?_
    refine va_alen (v := 40) hx hb hK hP 1 2 rfl rfl (by rfl) d_Facts_add_15 ?_
    refine lv_icmp_ge (tgt := 61) hx hb d_Facts_add_16 (by decide) (fun c_2 => ?_) (fun c_2 => ?_)
    · have hF := hF.trans (if_pos c_2)
      have hP9 := hP.sub (ws' := [(oF, .inr (1, [.ref aN, .ref aV, .int fz])), (aN, .inl (cJ, 40, .inr (.inl fn))), (aV, .inl (cI, 40, .inl fv))]) [0, 1, 2] rfl
      have hD9 := hD.sub (ws' := [(oF, .inr (1, [.ref aN, .ref aV, .int fz])), (aN, .inl (cJ, 40, .inr (.inl fn))), (aV, .inl (cI, 40, .inl fv))]) [0, 1, 2] (by decide) rfl
      exact W.vret hx hb hr (fun t ht hW => ⟨⟨(fz, fn, fv), rfl, by rw [hF], by rw [ht]; exact hP9, hD9⟩, hS.F ht⟩) hS.2.2 d_Facts_add_61
    · have hF := hF.trans (if_neg c_2)
      refine lv_aload_n hx hb d_Facts_add_19 rfl (lv_at hl 0 rfl) ?_
      refine va_get (D := (dC, dI)) (ci := 1) (v := .int fz) (C := "PermitRules$Facts") (T := T_Facts) (N := 3) hx hb htb in_Facts hown hK hP 0 rfl rfl 2 (by decide) (htb _ mb_77) (fun _ h9 => h9) rfl d_Facts_add_20 ?_
      refine lv_aload_n hx hb d_Facts_add_23 rfl (lv_at hl 0 rfl) ?_
      refine va_get (D := (dC, dI)) (ci := 1) (v := .ref aV) (C := "PermitRules$Facts") (T := T_Facts) (N := 3) hx hb htb in_Facts hown hK hP 0 rfl rfl 1 (by decide) (htb _ mb_76) (fun _ h9 => h9) rfl d_Facts_add_24 ?_
      refine va_alen (v := 40) hx hb hK hP 2 1 rfl rfl (by rfl) d_Facts_add_27 ?_
      refine lv_icmp_ge (tgt := 61) hx hb d_Facts_add_28 (by decide) (fun c_3 => ?_) (fun c_3 => ?_)
      · have hF := hF.trans (if_pos c_3)
        have hP9 := hP.sub (ws' := [(oF, .inr (1, [.ref aN, .ref aV, .int fz])), (aN, .inl (cJ, 40, .inr (.inl fn))), (aV, .inl (cI, 40, .inl fv))]) [0, 1, 2] rfl
        have hD9 := hD.sub (ws' := [(oF, .inr (1, [.ref aN, .ref aV, .int fz])), (aN, .inl (cJ, 40, .inr (.inl fn))), (aV, .inl (cI, 40, .inl fv))]) [0, 1, 2] (by decide) rfl
        exact W.vret hx hb hr (fun t ht hW => ⟨⟨(fz, fn, fv), rfl, by rw [hF], by rw [ht]; exact hP9, hD9⟩, hS.F ht⟩) hS.2.2 d_Facts_add_61
      · have hF := hF.trans (if_neg c_3)
        refine lv_aload_n hx hb d_Facts_add_31 rfl (lv_at hl 0 rfl) ?_
        refine va_get (D := (dC, dI)) (ci := 1) (v := .ref aN) (C := "PermitRules$Facts") (T := T_Facts) (N := 3) hx hb htb in_Facts hown hK hP 0 rfl rfl 0 (by decide) (htb _ mb_75) (fun _ h9 => h9) rfl d_Facts_add_32 ?_
        refine lv_aload_n hx hb d_Facts_add_35 rfl (lv_at hl 0 rfl) ?_
        refine va_get (D := (dC, dI)) (ci := 1) (v := .int fz) (C := "PermitRules$Facts") (T := T_Facts) (N := 3) hx hb htb in_Facts hown hK hP 0 rfl rfl 2 (by decide) (htb _ mb_77) (fun _ h9 => h9) rfl d_Facts_add_36 ?_
        refine lv_lload_n hx hb d_Facts_add_39 rfl (lv_at hl 1 rfl) ?_
        refine va_last hx hb hK hP hD hS 1 2 rfl rfl (oi_in (N := 40) (by decide) c_1 c_3) d_Facts_add_40 (fun H locs hP hD hS => ?_)
        have hP : va_P (dC, dI) vwCl [(oF, .inr (1, [.ref aN, .ref aV, .int fz])), (aN, .inl (cJ, 40, .inr (.inl (vp_updL fn fz.toNatClampNeg nm)))), (aV, .inl (cI, 40, .inl fv))] H := hP
        have hD : va_D A [(oF, .inr (1, [.ref aN, .ref aV, .int fz])), (aN, .inl (cJ, 40, .inr (.inl (vp_updL fn fz.toNatClampNeg nm)))), (aV, .inl (cI, 40, .inl fv))] := hD
        refine lv_aload_n hx hb d_Facts_add_41 rfl (lv_at hl 0 rfl) ?_
        refine va_get (D := (dC, dI)) (ci := 1) (v := .ref aV) (C := "PermitRules$Facts") (T := T_Facts) (N := 3) hx hb htb in_Facts hown hK hP 0 rfl rfl 1 (by decide) (htb _ mb_76) (fun _ h9 => h9) rfl d_Facts_add_42 ?_
        refine lv_aload_n hx hb d_Facts_add_45 rfl (lv_at hl 0 rfl) ?_
        refine va_get (D := (dC, dI)) (ci := 1) (v := .int fz) (C := "PermitRules$Facts") (T := T_Facts) (N := 3) hx hb htb in_Facts hown hK hP 0 rfl rfl 2 (by decide) (htb _ mb_77) (fun _ h9 => h9) rfl d_Facts_add_46 ?_
        refine lv_iload_n hx hb d_Facts_add_49 rfl (lv_at hl 2 rfl) ?_
        refine va_iast hx hb hK hP hD hS 2 1 rfl rfl (oi_in (N := 40) (by decide) c_1 c_3) d_Facts_add_50 (fun H locs hP hD hS => ?_)
        have hP : va_P (dC, dI) vwCl [(oF, .inr (1, [.ref aN, .ref aV, .int fz])), (aN, .inl (cJ, 40, .inr (.inl (vp_updL fn fz.toNatClampNeg nm)))), (aV, .inl (cI, 40, .inl (upd fv fz.toNatClampNeg vl)))] H := hP
        have hD : va_D A [(oF, .inr (1, [.ref aN, .ref aV, .int fz])), (aN, .inl (cJ, 40, .inr (.inl (vp_updL fn fz.toNatClampNeg nm)))), (aV, .inl (cI, 40, .inl (upd fv fz.toNatClampNeg vl)))] := hD
        refine lv_aload_n hx hb d_Facts_add_51 rfl (lv_at hl 0 rfl) ?_
        refine lv_dup hx hb d_Facts_add_52 rfl ?_
        refine va_get (D := (dC, dI)) (ci := 1) (v := .int fz) (C := "PermitRules$Facts") (T := T_Facts) (N := 3) hx hb htb in_Facts hown hK hP 0 rfl rfl 2 (by decide) (htb _ mb_77) (fun _ h9 => h9) rfl d_Facts_add_53 ?_
        refine lv_iconst (v := 1) hx hb d_Facts_add_56 (by decide) ?_
        refine lv_iadd hx hb d_Facts_add_57 ?_
        refine va_put (D := (dC, dI)) (ci := 1) (v := .int (fz + 1)) (ty := .int) (C := "PermitRules$Facts") (T := T_Facts) (N := 3) hx hb htb in_Facts ty_Facts to_Facts nm_Facts hown hK hP hD hS 0 rfl rfl 2 (by decide) (htb _ mb_77) (fun _ h9 => h9) rfl (by decide +kernel) rfl rfl (Nat.le_of_ble_eq_true rfl) d_Facts_add_58 (fun H locs hP hD hS => ?_)
        have hP : va_P (dC, dI) vwCl [(oF, .inr (1, [.ref aN, .ref aV, .int (fz + 1)])), (aN, .inl (cJ, 40, .inr (.inl (vp_updL fn fz.toNatClampNeg nm)))), (aV, .inl (cI, 40, .inl (upd fv fz.toNatClampNeg vl)))] H := hP
        have hD : va_D A [(oF, .inr (1, [.ref aN, .ref aV, .int (fz + 1)])), (aN, .inl (cJ, 40, .inr (.inl (vp_updL fn fz.toNatClampNeg nm)))), (aV, .inl (cI, 40, .inl (upd fv fz.toNatClampNeg vl)))] := hD
        have hP9 := hP.sub (ws' := [(oF, .inr (1, [.ref aN, .ref aV, .int (fz + 1)])), (aN, .inl (cJ, 40, .inr (.inl (vp_updL fn fz.toNatClampNeg nm)))), (aV, .inl (cI, 40, .inl (upd fv fz.toNatClampNeg vl)))]) [0, 1, 2] rfl
        have hD9 := hD.sub (ws' := [(oF, .inr (1, [.ref aN, .ref aV, .int (fz + 1)])), (aN, .inl (cJ, 40, .inr (.inl (vp_updL fn fz.toNatClampNeg nm)))), (aV, .inl (cI, 40, .inl (upd fv fz.toNatClampNeg vl)))]) [0, 1, 2] (by decide) rfl
        exact W.vret hx hb hr (fun t ht hW => ⟨⟨(fz + 1, vp_updL fn fz.toNatClampNeg nm, upd fv fz.toNatClampNeg vl), rfl, by rw [hF], by rw [ht]; exact hP9, hD9⟩, hS.F ht⟩) hS.2.2 d_Facts_add_61
def f_Facts_drop (sl : Int32) (fz : Int32) (fn : (Nat → Int64)) (fv : (Nat → Int32)) : Int32 × (Nat → Int64) × (Nat → Int32) := (if sl < 0 then (fz, fn, fv) else (if (fz - 1) < sl then (fz, fn, fv) else (if 40 ≤ (fz - 1) then (fz, fn, fv) else (if 40 ≤ (fz - 1) then (fz, fn, fv) else (fz - 1, vp_updL fn sl.toNatClampNeg (fn (fz - 1).toNatClampNeg), upd fv sl.toNatClampNeg (fv (fz - 1).toNatClampNeg))))))
abbrev q_Facts_drop (dC : Nat → ClassId) (dI : Nat → Nat → Nat) (cB cI cJ : ClassId) (oF aN aV : Nat) (sl : Int32) (fz : Int32) (fn : (Nat → Int64)) (fv : (Nat → Int32)) (A : Nat → Prop) : Array Value → State → Outcome → State → Prop := va_Qv (fun u : Int32 × (Nat → Int64) × (Nat → Int32) => u = f_Facts_drop sl fz fn fv) (fun u t => va_P (dC, dI) vwCl [(oF, .inr (1, [.ref aN, .ref aV, .int u.1])), (aN, .inl (cJ, 40, .inr (.inl u.2.1))), (aV, .inl (cI, 40, .inl u.2.2))] t.heap ∧ va_D A [(oF, .inr (1, [.ref aN, .ref aV, .int u.1])), (aN, .inl (cJ, 40, .inr (.inl u.2.1))), (aV, .inl (cI, 40, .inl u.2.2))]) A
set_option maxHeartbeats 4000000 in
set_option maxRecDepth 100000 in
theorem c_Facts_drop (l : Launch) (dC : Nat → ClassId) (dI : Nat → Nat → Nat) (cB cI cJ : ClassId) (oF aN aV : Nat) (sz : Nat) (sl : Int32) (fz : Int32) (fn : (Nat → Int64)) (fv : (Nat → Int32)) : Met l y_Facts_drop (cw_Facts_drop :: bgw) { frames := 0, cells := 0, slots := 0, locals := 0 } (va_Pc [.ref oF, .int sl] (kb_B dC dI cB cI cJ [(oF, .inr (1, [.ref aN, .ref aV, .int fz])), (aN, .inl (cJ, 40, .inr (.inl fn))), (aV, .inl (cI, 40, .inl fv))] sz)) (q_Facts_drop dC dI cB cI cJ oF aN aV sl fz fn fv (va_A [(oF, .inr (1, [.ref aN, .ref aV, .int fz])), (aN, .inl (cJ, 40, .inr (.inl fn))), (aV, .inl (cI, 40, .inl fv))] sz)) 0 0 (va_A [(oF, .inr (1, [.ref aN, .ref aV, .int fz])), (aN, .inl (cJ, 40, .inr (.inl fn))), (aV, .inl (cI, 40, .inl fv))] sz) := by
  refine Met.ofW (cc := prog_3_method_6_code) (maxL := 3) (ret := none) (by decide) rfl ?_
  intro p e s m args below meth c s₁ B hml hv
  obtain ⟨rfl, hsz, hP, hKx, hD0⟩ := hv
  have hx := B.exec
  have hb := B.bytes
  have hr := B.returns
  have hts := atoms_spec (ws := (cw_Facts_drop :: bgw)) B.pre
  have hown : s.vm.findClass "PermitRules$Facts" = some m.cls := findClass_of_methodNamed B.named
  have hlocks := B.notSynchronized
  have htb := fun (w : Cond) (h : w ∈ bgw) => hts w (List.mem_cons_of_mem _ h)
  have hK := hKx.1
  subst hsz
  have hD := hD0.self (sz := s.heap.size)
  generalize hAe : va_A [(oF, .inr (1, [.ref aN, .ref aV, .int fz])), (aN, .inl (cJ, 40, .inr (.inl fn))), (aV, .inl (cI, 40, .inl fv))] s.heap.size = A at hD ⊢
  have hA : ∀ q : Nat, s.heap.size ≤ q → A q := fun q h => by rw [← hAe]; exact Or.inr h
  have hS : va_S A s.heap s.heap [] := va_S.rf
  have hl := lv_entry ([.ref oF, .int sl]) (n := 3) (Nat.le_of_ble_eq_true rfl)
  rw [lg_entry_eq]
  generalize (lg_sl ([.ref oF, .int sl]) ++ List.replicate (3 - (lg_sl ([.ref oF, .int sl])).length) Slot.unset).toArray = ls at hl ⊢
  have hl : lv_has ls 3 [(0, .ref oF), (1, .int sl)] := hl
  have hP : va_P (dC, dI) vwCl [(oF, .inr (1, [.ref aN, .ref aV, .int fz])), (aN, .inl (cJ, 40, .inr (.inl fn))), (aV, .inl (cI, 40, .inl fv))] s.heap := hP
  have hF : f_Facts_drop sl fz fn fv = (if sl < 0 then (fz, fn, fv) else (if (fz - 1) < sl then (fz, fn, fv) else (if 40 ≤ (fz - 1) then (fz, fn, fv) else (if 40 ≤ (fz - 1) then (fz, fn, fv) else (fz - 1, vp_updL fn sl.toNatClampNeg (fn (fz - 1).toNatClampNeg), upd fv sl.toNatClampNeg (fv (fz - 1).toNatClampNeg)))))) := rfl
  refine lv_aload_n hx hb d_Facts_drop_0 rfl (lv_at hl 0 rfl) ?_
  refine va_get (D := (dC, dI)) (ci := 1) (v := .int fz) (C := "PermitRules$Facts") (T := T_Facts) (N := 3) hx hb htb in_Facts hown hK hP 0 rfl rfl 2 (by decide) (htb _ mb_77) (fun _ h9 => h9) rfl d_Facts_drop_1 ?_
  refine lv_iconst (v := 1) hx hb d_Facts_drop_4 (by decide) ?_
  refine lv_isub hx hb d_Facts_drop_5 ?_
  refine lv_istore_n (lv' := [(2, .int (fz - 1)), (0, .ref oF), (1, .int sl)]) hx hb d_Facts_drop_6 rfl hl (by decide) rfl (fun ls hl => ?_)
  refine lv_iload_n hx hb d_Facts_drop_7 rfl (lv_at hl 2 rfl) ?_
  refine lv_if_lt (tgt := 63) hx hb d_Facts_drop_8 (by decide) (fun c_1 => ?_) (fun c_1 => ?_)
  · have hF := hF.trans (if_pos c_1)
    have hP9 := hP.sub (ws' := [(oF, .inr (1, [.ref aN, .ref aV, .int fz])), (aN, .inl (cJ, 40, .inr (.inl fn))), (aV, .inl (cI, 40, .inl fv))]) [0, 1, 2] rfl
    have hD9 := hD.sub (ws' := [(oF, .inr (1, [.ref aN, .ref aV, .int fz])), (aN, .inl (cJ, 40, .inr (.inl fn))), (aV, .inl (cI, 40, .inl fv))]) [0, 1, 2] (by decide) rfl
    exact W.vret hx hb hr (fun t ht hW => ⟨⟨(fz, fn, fv), rfl, by rw [hF], by rw [ht]; exact hP9, hD9⟩, hS.F ht⟩) hS.2.2 d_Facts_drop_63
  · have hF := hF.trans (if_neg c_1)
    refine lv_iload_n hx hb d_Facts_drop_11 rfl (lv_at hl 2 rfl) ?_
    refine lv_iload_n hx hb d_Facts_drop_12 rfl (lv_at hl 0 rfl) ?_
    refine lv_icmp_gt (tgt := 63) hx hb d_Facts_drop_13 (by decide) (fun c_2 => ?_) (fun c_2 => ?_)
    · have hF := hF.trans (if_pos c_2)
      have hP9 := hP.sub (ws' := [(oF, .inr (1, [.ref aN, .ref aV, .int fz])), (aN, .inl (cJ, 40, .inr (.inl fn))), (aV, .inl (cI, 40, .inl fv))]) [0, 1, 2] rfl
      have hD9 := hD.sub (ws' := [(oF, .inr (1, [.ref aN, .ref aV, .int fz])), (aN, .inl (cJ, 40, .inr (.inl fn))), (aV, .inl (cI, 40, .inl fv))]) [0, 1, 2] (by decide) rfl
      exact W.vret hx hb hr (fun t ht hW => ⟨⟨(fz, fn, fv), rfl, by rw [hF], by rw [ht]; exact hP9, hD9⟩, hS.F ht⟩) hS.2.2 d_Facts_drop_63
    · have hF := hF.trans (if_neg c_2)
      refine lv_iload_n hx hb d_Facts_drop_16 rfl (lv_at hl 0 rfl) ?_
      refine lv_aload_n hx hb d_Facts_drop_17 rfl (lv_at hl 1 rfl) ?_
      refine va_get (D := (dC, dI)) (ci := 1) (v := .ref aN) (C := "PermitRules$Facts") (T := T_Facts) (N := 3) hx hb htb in_Facts hown hK hP 0 rfl rfl 0 (by decide) (htb _ mb_75) (fun _ h9 => h9) rfl d_Facts_drop_18 ?_
      refine va_alen (v := 40) hx hb hK hP 1 2 rfl rfl (by rfl) d_Facts_drop_21 ?_
      refine lv_icmp_ge (tgt := 63) hx hb d_Facts_drop_22 (by decide) (fun c_3 => ?_) (fun c_3 => ?_)
      · have hF := hF.trans (if_pos c_3)
        have hP9 := hP.sub (ws' := [(oF, .inr (1, [.ref aN, .ref aV, .int fz])), (aN, .inl (cJ, 40, .inr (.inl fn))), (aV, .inl (cI, 40, .inl fv))]) [0, 1, 2] rfl
        have hD9 := hD.sub (ws' := [(oF, .inr (1, [.ref aN, .ref aV, .int fz])), (aN, .inl (cJ, 40, .inr (.inl fn))), (aV, .inl (cI, 40, .inl fv))]) [0, 1, 2] (by decide) rfl
        exact W.vret hx hb hr (fun t ht hW => ⟨⟨(fz, fn, fv), rfl, by rw [hF], by rw [ht]; exact hP9, hD9⟩, hS.F ht⟩) hS.2.2 d_Facts_drop_63
      · have hF := hF.trans (if_neg c_3)
        refine lv_iload_n hx hb d_Facts_drop_25 rfl (lv_at hl 0 rfl) ?_
        refine lv_aload_n hx hb d_Facts_drop_26 rfl (lv_at hl 1 rfl) ?_
        refine va_get (D := (dC, dI)) (ci := 1) (v := .ref aV) (C := "PermitRules$Facts") (T := T_Facts) (N := 3) hx hb htb in_Facts hown hK hP 0 rfl rfl 1 (by decide) (htb _ mb_76) (fun _ h9 => h9) rfl d_Facts_drop_27 ?_
        refine va_alen (v := 40) hx hb hK hP 2 1 rfl rfl (by rfl) d_Facts_drop_30 ?_
        refine lv_icmp_ge (tgt := 63) hx hb d_Facts_drop_31 (by decide) (fun c_4 => ?_) (fun c_4 => ?_)
        · have hF := hF.trans (if_pos c_4)
          have hP9 := hP.sub (ws' := [(oF, .inr (1, [.ref aN, .ref aV, .int fz])), (aN, .inl (cJ, 40, .inr (.inl fn))), (aV, .inl (cI, 40, .inl fv))]) [0, 1, 2] rfl
          have hD9 := hD.sub (ws' := [(oF, .inr (1, [.ref aN, .ref aV, .int fz])), (aN, .inl (cJ, 40, .inr (.inl fn))), (aV, .inl (cI, 40, .inl fv))]) [0, 1, 2] (by decide) rfl
          exact W.vret hx hb hr (fun t ht hW => ⟨⟨(fz, fn, fv), rfl, by rw [hF], by rw [ht]; exact hP9, hD9⟩, hS.F ht⟩) hS.2.2 d_Facts_drop_63
        · have hF := hF.trans (if_neg c_4)
          refine lv_aload_n hx hb d_Facts_drop_34 rfl (lv_at hl 1 rfl) ?_
          refine va_get (D := (dC, dI)) (ci := 1) (v := .ref aN) (C := "PermitRules$Facts") (T := T_Facts) (N := 3) hx hb htb in_Facts hown hK hP 0 rfl rfl 0 (by decide) (htb _ mb_75) (fun _ h9 => h9) rfl d_Facts_drop_35 ?_
          refine lv_iload_n hx hb d_Facts_drop_38 rfl (lv_at hl 2 rfl) ?_
          refine lv_aload_n hx hb d_Facts_drop_39 rfl (lv_at hl 1 rfl) ?_
          refine va_get (D := (dC, dI)) (ci := 1) (v := .ref aN) (C := "PermitRules$Facts") (T := T_Facts) (N := 3) hx hb htb in_Facts hown hK hP 0 rfl rfl 0 (by decide) (htb _ mb_75) (fun _ h9 => h9) rfl d_Facts_drop_40 ?_
          refine lv_iload_n hx hb d_Facts_drop_43 rfl (lv_at hl 0 rfl) ?_
          refine va_lald hx hb hK hP 1 2 rfl rfl (oi_in (N := 40) (by decide) (oi_x0 c_1 c_2) c_3) d_Facts_drop_44 ?_
          refine va_last hx hb hK hP hD hS 1 2 rfl rfl (oi_in (N := 40) (by decide) c_1 (oi_x1 c_2 c_3)) d_Facts_drop_45 (fun H locs hP hD hS => ?_)
          have hP : va_P (dC, dI) vwCl [(oF, .inr (1, [.ref aN, .ref aV, .int fz])), (aN, .inl (cJ, 40, .inr (.inl (vp_updL fn sl.toNatClampNeg (fn (fz - 1).toNatClampNeg))))), (aV, .inl (cI, 40, .inl fv))] H := hP
          have hD : va_D A [(oF, .inr (1, [.ref aN, .ref aV, .int fz])), (aN, .inl (cJ, 40, .inr (.inl (vp_updL fn sl.toNatClampNeg (fn (fz - 1).toNatClampNeg))))), (aV, .inl (cI, 40, .inl fv))] := hD
          refine lv_aload_n hx hb d_Facts_drop_46 rfl (lv_at hl 1 rfl) ?_
          refine va_get (D := (dC, dI)) (ci := 1) (v := .ref aV) (C := "PermitRules$Facts") (T := T_Facts) (N := 3) hx hb htb in_Facts hown hK hP 0 rfl rfl 1 (by decide) (htb _ mb_76) (fun _ h9 => h9) rfl d_Facts_drop_47 ?_
          refine lv_iload_n hx hb d_Facts_drop_50 rfl (lv_at hl 2 rfl) ?_
          refine lv_aload_n hx hb d_Facts_drop_51 rfl (lv_at hl 1 rfl) ?_
          refine va_get (D := (dC, dI)) (ci := 1) (v := .ref aV) (C := "PermitRules$Facts") (T := T_Facts) (N := 3) hx hb htb in_Facts hown hK hP 0 rfl rfl 1 (by decide) (htb _ mb_76) (fun _ h9 => h9) rfl d_Facts_drop_52 ?_
          refine lv_iload_n hx hb d_Facts_drop_55 rfl (lv_at hl 0 rfl) ?_
          refine va_iald hx hb hK hP 2 1 rfl rfl (oi_in (N := 40) (by decide) (oi_x0 c_1 c_2) c_3) d_Facts_drop_56 ?_
          refine va_iast hx hb hK hP hD hS 2 1 rfl rfl (oi_in (N := 40) (by decide) c_1 (oi_x1 c_2 c_3)) d_Facts_drop_57 (fun H locs hP hD hS => ?_)
          have hP : va_P (dC, dI) vwCl [(oF, .inr (1, [.ref aN, .ref aV, .int fz])), (aN, .inl (cJ, 40, .inr (.inl (vp_updL fn sl.toNatClampNeg (fn (fz - 1).toNatClampNeg))))), (aV, .inl (cI, 40, .inl (upd fv sl.toNatClampNeg (fv (fz - 1).toNatClampNeg))))] H := hP
          have hD : va_D A [(oF, .inr (1, [.ref aN, .ref aV, .int fz])), (aN, .inl (cJ, 40, .inr (.inl (vp_updL fn sl.toNatClampNeg (fn (fz - 1).toNatClampNeg))))), (aV, .inl (cI, 40, .inl (upd fv sl.toNatClampNeg (fv (fz - 1).toNatClampNeg))))] := hD
          refine lv_aload_n hx hb d_Facts_drop_58 rfl (lv_at hl 1 rfl) ?_
          refine lv_iload_n hx hb d_Facts_drop_59 rfl (lv_at hl 0 rfl) ?_
          refine va_put (D := (dC, dI)) (ci := 1) (v := .int (fz - 1)) (ty := .int) (C := "PermitRules$Facts") (T := T_Facts) (N := 3) hx hb htb in_Facts ty_Facts to_Facts nm_Facts hown hK hP hD hS 0 rfl rfl 2 (by decide) (htb _ mb_77) (fun _ h9 => h9) rfl (by decide +kernel) rfl rfl (Nat.le_of_ble_eq_true rfl) d_Facts_drop_60 (fun H locs hP hD hS => ?_)
          have hP : va_P (dC, dI) vwCl [(oF, .inr (1, [.ref aN, .ref aV, .int (fz - 1)])), (aN, .inl (cJ, 40, .inr (.inl (vp_updL fn sl.toNatClampNeg (fn (fz - 1).toNatClampNeg))))), (aV, .inl (cI, 40, .inl (upd fv sl.toNatClampNeg (fv (fz - 1).toNatClampNeg))))] H := hP
          have hD : va_D A [(oF, .inr (1, [.ref aN, .ref aV, .int (fz - 1)])), (aN, .inl (cJ, 40, .inr (.inl (vp_updL fn sl.toNatClampNeg (fn (fz - 1).toNatClampNeg))))), (aV, .inl (cI, 40, .inl (upd fv sl.toNatClampNeg (fv (fz - 1).toNatClampNeg))))] := hD
          have hP9 := hP.sub (ws' := [(oF, .inr (1, [.ref aN, .ref aV, .int (fz - 1)])), (aN, .inl (cJ, 40, .inr (.inl (vp_updL fn sl.toNatClampNeg (fn (fz - 1).toNatClampNeg))))), (aV, .inl (cI, 40, .inl (upd fv sl.toNatClampNeg (fv (fz - 1).toNatClampNeg))))]) [0, 1, 2] rfl
          have hD9 := hD.sub (ws' := [(oF, .inr (1, [.ref aN, .ref aV, .int (fz - 1)])), (aN, .inl (cJ, 40, .inr (.inl (vp_updL fn sl.toNatClampNeg (fn (fz - 1).toNatClampNeg))))), (aV, .inl (cI, 40, .inl (upd fv sl.toNatClampNeg (fv (fz - 1).toNatClampNeg))))]) [0, 1, 2] (by decide) rfl
          exact W.vret hx hb hr (fun t ht hW => ⟨⟨(fz - 1, vp_updL fn sl.toNatClampNeg (fn (fz - 1).toNatClampNeg), upd fv sl.toNatClampNeg (fv (fz - 1).toNatClampNeg)), rfl, by rw [hF], by rw [ht]; exact hP9, hD9⟩, hS.F ht⟩) hS.2.2 d_Facts_drop_63
