def f_Model_in (va : Int64) (vb : Int64) (vc : Int64) : Int32 := (if (lg_cmp va vb) < 0 then 0 else (if 0 < (lg_cmp va vc) then 0 else 1))
abbrev q_Model_in (dC : Nat → ClassId) (dI : Nat → Nat → Nat) (cB cI cJ : ClassId) (va : Int64) (vb : Int64) (vc : Int64) (A : Nat → Prop) : Array Value → State → Outcome → State → Prop := va_Qi (fun (r : Int32) (u : Unit) => r = f_Model_in va vb vc) (fun u t => va_P (dC, dI) vwCl [] t.heap ∧ va_D A []) A
set_option maxHeartbeats 4000000 in
set_option maxRecDepth 100000 in
theorem c_Model_in (l : Launch) (dC : Nat → ClassId) (dI : Nat → Nat → Nat) (cB cI cJ : ClassId) (sz : Nat) (va : Int64) (vb : Int64) (vc : Int64) : Met l y_Model_in (cw_Model_in :: bgw) { frames := 0, cells := 0, slots := 0, locals := 0 } (va_Pc [.long va, .long vb, .long vc] (kb_B dC dI cB cI cJ [] sz)) (q_Model_in dC dI cB cI cJ va vb vc (va_A [] sz)) 0 0 (va_A [] sz) := by
  refine Met.ofW (cc := prog_10_method_3_code) (maxL := 6) (ret := (some .boolean)) (by decide) rfl ?_
  intro p e s m args below meth c s₁ B hml hv
  obtain ⟨rfl, hsz, hP, hKx, hD0⟩ := hv
  have hx := B.exec
  have hb := B.bytes
  have hr := B.returns
  have hts := atoms_spec (ws := (cw_Model_in :: bgw)) B.pre
  have hown : s.vm.findClass "PermitRulesModel" = some m.cls := findClass_of_methodNamed B.named
  have hlocks := B.notSynchronized
  have htb := fun (w : Cond) (h : w ∈ bgw) => hts w (List.mem_cons_of_mem _ h)
  have hK := hKx.1
  subst hsz
  have hD := hD0.self (sz := s.heap.size)
  generalize hAe : va_A [] s.heap.size = A at hD ⊢
  have hA : ∀ q : Nat, s.heap.size ≤ q → A q := fun q h => by rw [← hAe]; exact Or.inr h
  have hS : va_S A s.heap s.heap [] := va_S.rf
  have hl := lv_entry ([.long va, .long vb, .long vc]) (n := 6) (Nat.le_of_ble_eq_true rfl)
  rw [lg_entry_eq]
  generalize (lg_sl ([.long va, .long vb, .long vc]) ++ List.replicate (6 - (lg_sl ([.long va, .long vb, .long vc])).length) Slot.unset).toArray = ls at hl ⊢
  have hl : lv_has ls 6 [(0, .long va), (2, .long vb), (4, .long vc)] := hl
  have hP : va_P (dC, dI) vwCl [] s.heap := hP
  have hF : f_Model_in va vb vc = (if (lg_cmp va vb) < 0 then 0 else (if 0 < (lg_cmp va vc) then 0 else 1)) := rfl
  refine lv_lload_n hx hb d_Model_in_0 rfl (lv_at hl 0 rfl) ?_
  refine lv_lload_n hx hb d_Model_in_1 rfl (lv_at hl 1 rfl) ?_
  refine W.lcmp hx hb d_Model_in_2 ?_
  refine lv_if_lt (tgt := 17) hx hb d_Model_in_3 (by decide) (fun c_1 => ?_) (fun c_1 => ?_)
  · have hF := hF.trans (if_pos c_1)
    refine lv_iconst (v := 0) hx hb d_Model_in_17 (by decide) ?_
    have hP9 := hP.sub (ws' := []) [] rfl
    have hD9 := hD.sub (ws' := []) [] (by decide) rfl
    exact W.zret (v := (0 : Int32)) hx hb hr (rfl) (fun t ht hW => ⟨⟨(0 : Int32), (), rfl, by rw [hF], by rw [ht]; exact hP9, hD9⟩, hS.F ht⟩) hS.2.2 d_Model_in_18
  · have hF := hF.trans (if_neg c_1)
    refine lv_lload_n hx hb d_Model_in_6 rfl (lv_at hl 0 rfl) ?_
    refine lv_lload hx hb d_Model_in_7 (lv_at hl 2 rfl) ?_
    refine W.lcmp hx hb d_Model_in_9 ?_
    refine lv_if_gt (tgt := 17) hx hb d_Model_in_10 (by decide) (fun c_2 => ?_) (fun c_2 => ?_)
    · have hF := hF.trans (if_pos c_2)
      refine lv_iconst (v := 0) hx hb d_Model_in_17 (by decide) ?_
      have hP9 := hP.sub (ws' := []) [] rfl
      have hD9 := hD.sub (ws' := []) [] (by decide) rfl
      exact W.zret (v := (0 : Int32)) hx hb hr (rfl) (fun t ht hW => ⟨⟨(0 : Int32), (), rfl, by rw [hF], by rw [ht]; exact hP9, hD9⟩, hS.F ht⟩) hS.2.2 d_Model_in_18
    · have hF := hF.trans (if_neg c_2)
      refine lv_iconst (v := 1) hx hb d_Model_in_13 (by decide) ?_
      refine lv_goto (tgt := 18) hx hb d_Model_in_14 (by decide) ?_
      have hP9 := hP.sub (ws' := []) [] rfl
      have hD9 := hD.sub (ws' := []) [] (by decide) rfl
      exact W.zret (v := (1 : Int32)) hx hb hr (rfl) (fun t ht hW => ⟨⟨(1 : Int32), (), rfl, by rw [hF], by rw [ht]; exact hP9, hD9⟩, hS.F ht⟩) hS.2.2 d_Model_in_18
theorem nb_in (va vb vc : Int64) : narrow .boolean (.int (f_Model_in va vb vc)) = .int (f_Model_in va vb vc) := by
  unfold f_Model_in
  repeat' split
  all_goals rfl
def f_Model_thrown (th : Int32) : Int32 := th
abbrev q_Model_thrown (dC : Nat → ClassId) (dI : Nat → Nat → Nat) (cB cI cJ : ClassId) (oM mT mN mD mF mS mL mR mE mK mV mO mA mB mU mW mX mY : Nat) (th : Int32) (ml : Int32) (ma : Int32) (mk : Int32) (mp : Int32) (mv : Int64) (mw : Int32) (dr : Int32) (dc : Int32) (ds : Int32) (ru : Int32) (cl : Int32) (os : Int32) (fc : Int32) (pi : Int32) (wh : Int32) (ms : Int64) (aq : Int32) (da : Int32) (lu : Int64) (ld : Int64) (qu : Int64) (qd : Int64) (A : Nat → Prop) : Array Value → State → Outcome → State → Prop := va_Qi (fun (r : Int32) (u : Unit) => r = f_Model_thrown th) (fun u t => va_P (dC, dI) vwCl [(oM, .inr (8, [.int th, .ref mT, .int ml, .int ma, .int mk, .int mp, .long mv, .int mw, .ref mN, .ref mD, .ref mF, .ref mS, .ref mL, .ref mR, .ref mE, .ref mK, .ref mV, .int dr, .int dc, .int ds, .int ru, .int cl, .ref mO, .int os, .int fc, .ref mA, .ref mB, .ref mU, .ref mW, .int pi, .int wh, .long ms, .int aq, .int da, .ref mX, .ref mY, .long lu, .long ld, .long qu, .long qd]))] t.heap ∧ va_D A [(oM, .inr (8, [.int th, .ref mT, .int ml, .int ma, .int mk, .int mp, .long mv, .int mw, .ref mN, .ref mD, .ref mF, .ref mS, .ref mL, .ref mR, .ref mE, .ref mK, .ref mV, .int dr, .int dc, .int ds, .int ru, .int cl, .ref mO, .int os, .int fc, .ref mA, .ref mB, .ref mU, .ref mW, .int pi, .int wh, .long ms, .int aq, .int da, .ref mX, .ref mY, .long lu, .long ld, .long qu, .long qd]))]) A
set_option maxHeartbeats 4000000 in
set_option maxRecDepth 100000 in
theorem c_Model_thrown (l : Launch) (dC : Nat → ClassId) (dI : Nat → Nat → Nat) (cB cI cJ : ClassId) (oM mT mN mD mF mS mL mR mE mK mV mO mA mB mU mW mX mY : Nat) (sz : Nat) (th : Int32) (ml : Int32) (ma : Int32) (mk : Int32) (mp : Int32) (mv : Int64) (mw : Int32) (dr : Int32) (dc : Int32) (ds : Int32) (ru : Int32) (cl : Int32) (os : Int32) (fc : Int32) (pi : Int32) (wh : Int32) (ms : Int64) (aq : Int32) (da : Int32) (lu : Int64) (ld : Int64) (qu : Int64) (qd : Int64) : Met l y_Model_thrown (cw_Model_thrown :: bgw) { frames := 0, cells := 0, slots := 0, locals := 0 } (va_Pc [.ref oM] (kb_B dC dI cB cI cJ [(oM, .inr (8, [.int th, .ref mT, .int ml, .int ma, .int mk, .int mp, .long mv, .int mw, .ref mN, .ref mD, .ref mF, .ref mS, .ref mL, .ref mR, .ref mE, .ref mK, .ref mV, .int dr, .int dc, .int ds, .int ru, .int cl, .ref mO, .int os, .int fc, .ref mA, .ref mB, .ref mU, .ref mW, .int pi, .int wh, .long ms, .int aq, .int da, .ref mX, .ref mY, .long lu, .long ld, .long qu, .long qd]))] sz)) (q_Model_thrown dC dI cB cI cJ oM mT mN mD mF mS mL mR mE mK mV mO mA mB mU mW mX mY th ml ma mk mp mv mw dr dc ds ru cl os fc pi wh ms aq da lu ld qu qd (va_A [(oM, .inr (8, [.int th, .ref mT, .int ml, .int ma, .int mk, .int mp, .long mv, .int mw, .ref mN, .ref mD, .ref mF, .ref mS, .ref mL, .ref mR, .ref mE, .ref mK, .ref mV, .int dr, .int dc, .int ds, .int ru, .int cl, .ref mO, .int os, .int fc, .ref mA, .ref mB, .ref mU, .ref mW, .int pi, .int wh, .long ms, .int aq, .int da, .ref mX, .ref mY, .long lu, .long ld, .long qu, .long qd]))] sz)) 0 0 (va_A [(oM, .inr (8, [.int th, .ref mT, .int ml, .int ma, .int mk, .int mp, .long mv, .int mw, .ref mN, .ref mD, .ref mF, .ref mS, .ref mL, .ref mR, .ref mE, .ref mK, .ref mV, .int dr, .int dc, .int ds, .int ru, .int cl, .ref mO, .int os, .int fc, .ref mA, .ref mB, .ref mU, .ref mW, .int pi, .int wh, .long ms, .int aq, .int da, .ref mX, .ref mY, .long lu, .long ld, .long qu, .long qd]))] sz) := by
  refine Met.ofW (cc := prog_10_method_2_code) (maxL := 1) (ret := (some .int)) (by decide) rfl ?_
  intro p e s m args below meth c s₁ B hml hv
  obtain ⟨rfl, hsz, hP, hKx, hD0⟩ := hv
  have hx := B.exec
  have hb := B.bytes
  have hr := B.returns
  have hts := atoms_spec (ws := (cw_Model_thrown :: bgw)) B.pre
  have hown : s.vm.findClass "PermitRulesModel" = some m.cls := findClass_of_methodNamed B.named
  have hlocks := B.notSynchronized
  have htb := fun (w : Cond) (h : w ∈ bgw) => hts w (List.mem_cons_of_mem _ h)
  have hK := hKx.1
  subst hsz
  have hD := hD0.self (sz := s.heap.size)
  generalize hAe : va_A [(oM, .inr (8, [.int th, .ref mT, .int ml, .int ma, .int mk, .int mp, .long mv, .int mw, .ref mN, .ref mD, .ref mF, .ref mS, .ref mL, .ref mR, .ref mE, .ref mK, .ref mV, .int dr, .int dc, .int ds, .int ru, .int cl, .ref mO, .int os, .int fc, .ref mA, .ref mB, .ref mU, .ref mW, .int pi, .int wh, .long ms, .int aq, .int da, .ref mX, .ref mY, .long lu, .long ld, .long qu, .long qd]))] s.heap.size = A at hD ⊢
  have hA : ∀ q : Nat, s.heap.size ≤ q → A q := fun q h => by rw [← hAe]; exact Or.inr h
  have hS : va_S A s.heap s.heap [] := va_S.rf
  have hl := lv_entry ([.ref oM]) (n := 1) (Nat.le_of_ble_eq_true rfl)
  rw [lg_entry_eq]
  generalize (lg_sl ([.ref oM]) ++ List.replicate (1 - (lg_sl ([.ref oM])).length) Slot.unset).toArray = ls at hl ⊢
  have hl : lv_has ls 1 [(0, .ref oM)] := hl
  have hP : va_P (dC, dI) vwCl [(oM, .inr (8, [.int th, .ref mT, .int ml, .int ma, .int mk, .int mp, .long mv, .int mw, .ref mN, .ref mD, .ref mF, .ref mS, .ref mL, .ref mR, .ref mE, .ref mK, .ref mV, .int dr, .int dc, .int ds, .int ru, .int cl, .ref mO, .int os, .int fc, .ref mA, .ref mB, .ref mU, .ref mW, .int pi, .int wh, .long ms, .int aq, .int da, .ref mX, .ref mY, .long lu, .long ld, .long qu, .long qd]))] s.heap := hP
  have hF : f_Model_thrown th = th := rfl
  refine lv_aload_n hx hb d_Model_thrown_0 rfl (lv_at hl 0 rfl) ?_
  refine va_get (D := (dC, dI)) (ci := 8) (v := .int th) (C := "PermitRulesModel") (T := T_Model) (N := 40) hx hb htb in_Model hown hK hP 0 rfl rfl 0 (by decide) (htb _ mb_653) (fun _ h9 => h9) rfl d_Model_thrown_1 ?_
  have hP9 := hP.sub (ws' := [(oM, .inr (8, [.int th, .ref mT, .int ml, .int ma, .int mk, .int mp, .long mv, .int mw, .ref mN, .ref mD, .ref mF, .ref mS, .ref mL, .ref mR, .ref mE, .ref mK, .ref mV, .int dr, .int dc, .int ds, .int ru, .int cl, .ref mO, .int os, .int fc, .ref mA, .ref mB, .ref mU, .ref mW, .int pi, .int wh, .long ms, .int aq, .int da, .ref mX, .ref mY, .long lu, .long ld, .long qu, .long qd]))]) [0] rfl
  have hD9 := hD.sub (ws' := [(oM, .inr (8, [.int th, .ref mT, .int ml, .int ma, .int mk, .int mp, .long mv, .int mw, .ref mN, .ref mD, .ref mF, .ref mS, .ref mL, .ref mR, .ref mE, .ref mK, .ref mV, .int dr, .int dc, .int ds, .int ru, .int cl, .ref mO, .int os, .int fc, .ref mA, .ref mB, .ref mU, .ref mW, .int pi, .int wh, .long ms, .int aq, .int da, .ref mX, .ref mY, .long lu, .long ld, .long qu, .long qd]))]) [0] (by decide) rfl
  exact W.iret (v := th) hx hb hr (fun t ht hW => ⟨⟨th, (), rfl, by rw [hF], by rw [ht]; exact hP9, hD9⟩, hS.F ht⟩) hS.2.2 d_Model_thrown_4
def f_Model_character (i : Int32) (ml : Int32) (mt : (Nat → Int32)) : Int32 := (if ml ≤ i then (-1) else mt i.toNatClampNeg)
abbrev q_Model_character (dC : Nat → ClassId) (dI : Nat → Nat → Nat) (cB cI cJ : ClassId) (oM mT mN mD mF mS mL mR mE mK mV mO mA mB mU mW mX mY : Nat) (i : Int32) (th : Int32) (ml : Int32) (ma : Int32) (mk : Int32) (mp : Int32) (mv : Int64) (mw : Int32) (dr : Int32) (dc : Int32) (ds : Int32) (ru : Int32) (cl : Int32) (os : Int32) (fc : Int32) (pi : Int32) (wh : Int32) (ms : Int64) (aq : Int32) (da : Int32) (lu : Int64) (ld : Int64) (qu : Int64) (qd : Int64) (mt : (Nat → Int32)) (A : Nat → Prop) : Array Value → State → Outcome → State → Prop := va_Qi (fun (r : Int32) (u : Unit) => r = f_Model_character i ml mt) (fun u t => va_P (dC, dI) vwCl [(oM, .inr (8, [.int th, .ref mT, .int ml, .int ma, .int mk, .int mp, .long mv, .int mw, .ref mN, .ref mD, .ref mF, .ref mS, .ref mL, .ref mR, .ref mE, .ref mK, .ref mV, .int dr, .int dc, .int ds, .int ru, .int cl, .ref mO, .int os, .int fc, .ref mA, .ref mB, .ref mU, .ref mW, .int pi, .int wh, .long ms, .int aq, .int da, .ref mX, .ref mY, .long lu, .long ld, .long qu, .long qd])), (mT, .inl (cI, 800, .inl mt))] t.heap ∧ va_D A [(oM, .inr (8, [.int th, .ref mT, .int ml, .int ma, .int mk, .int mp, .long mv, .int mw, .ref mN, .ref mD, .ref mF, .ref mS, .ref mL, .ref mR, .ref mE, .ref mK, .ref mV, .int dr, .int dc, .int ds, .int ru, .int cl, .ref mO, .int os, .int fc, .ref mA, .ref mB, .ref mU, .ref mW, .int pi, .int wh, .long ms, .int aq, .int da, .ref mX, .ref mY, .long lu, .long ld, .long qu, .long qd])), (mT, .inl (cI, 800, .inl mt))]) A
set_option maxHeartbeats 4000000 in
set_option maxRecDepth 100000 in
theorem c_Model_character (l : Launch) (dC : Nat → ClassId) (dI : Nat → Nat → Nat) (cB cI cJ : ClassId) (oM mT mN mD mF mS mL mR mE mK mV mO mA mB mU mW mX mY : Nat) (sz : Nat) (i : Int32) (th : Int32) (ml : Int32) (ma : Int32) (mk : Int32) (mp : Int32) (mv : Int64) (mw : Int32) (dr : Int32) (dc : Int32) (ds : Int32) (ru : Int32) (cl : Int32) (os : Int32) (fc : Int32) (pi : Int32) (wh : Int32) (ms : Int64) (aq : Int32) (da : Int32) (lu : Int64) (ld : Int64) (qu : Int64) (qd : Int64) (mt : (Nat → Int32)) (h0 : 0 ≤ i.toInt) (hL : ml.toInt ≤ 800) : Met l y_Model_character (cw_Model_character :: bgw) { frames := 0, cells := 0, slots := 0, locals := 0 } (va_Pc [.ref oM, .int i] (kb_B dC dI cB cI cJ [(oM, .inr (8, [.int th, .ref mT, .int ml, .int ma, .int mk, .int mp, .long mv, .int mw, .ref mN, .ref mD, .ref mF, .ref mS, .ref mL, .ref mR, .ref mE, .ref mK, .ref mV, .int dr, .int dc, .int ds, .int ru, .int cl, .ref mO, .int os, .int fc, .ref mA, .ref mB, .ref mU, .ref mW, .int pi, .int wh, .long ms, .int aq, .int da, .ref mX, .ref mY, .long lu, .long ld, .long qu, .long qd])), (mT, .inl (cI, 800, .inl mt))] sz)) (q_Model_character dC dI cB cI cJ oM mT mN mD mF mS mL mR mE mK mV mO mA mB mU mW mX mY i th ml ma mk mp mv mw dr dc ds ru cl os fc pi wh ms aq da lu ld qu qd mt (va_A [(oM, .inr (8, [.int th, .ref mT, .int ml, .int ma, .int mk, .int mp, .long mv, .int mw, .ref mN, .ref mD, .ref mF, .ref mS, .ref mL, .ref mR, .ref mE, .ref mK, .ref mV, .int dr, .int dc, .int ds, .int ru, .int cl, .ref mO, .int os, .int fc, .ref mA, .ref mB, .ref mU, .ref mW, .int pi, .int wh, .long ms, .int aq, .int da, .ref mX, .ref mY, .long lu, .long ld, .long qu, .long qd])), (mT, .inl (cI, 800, .inl mt))] sz)) 0 0 (va_A [(oM, .inr (8, [.int th, .ref mT, .int ml, .int ma, .int mk, .int mp, .long mv, .int mw, .ref mN, .ref mD, .ref mF, .ref mS, .ref mL, .ref mR, .ref mE, .ref mK, .ref mV, .int dr, .int dc, .int ds, .int ru, .int cl, .ref mO, .int os, .int fc, .ref mA, .ref mB, .ref mU, .ref mW, .int pi, .int wh, .long ms, .int aq, .int da, .ref mX, .ref mY, .long lu, .long ld, .long qu, .long qd])), (mT, .inl (cI, 800, .inl mt))] sz) := by
  refine Met.ofW (cc := prog_10_method_6_code) (maxL := 2) (ret := (some .int)) (by decide) rfl ?_
  intro p e s m args below meth c s₁ B hml hv
  obtain ⟨rfl, hsz, hP, hKx, hD0⟩ := hv
  have hx := B.exec
  have hb := B.bytes
  have hr := B.returns
  have hts := atoms_spec (ws := (cw_Model_character :: bgw)) B.pre
  have hown : s.vm.findClass "PermitRulesModel" = some m.cls := findClass_of_methodNamed B.named
  have hlocks := B.notSynchronized
  have htb := fun (w : Cond) (h : w ∈ bgw) => hts w (List.mem_cons_of_mem _ h)
  have hK := hKx.1
  subst hsz
  have hD := hD0.self (sz := s.heap.size)
  generalize hAe : va_A [(oM, .inr (8, [.int th, .ref mT, .int ml, .int ma, .int mk, .int mp, .long mv, .int mw, .ref mN, .ref mD, .ref mF, .ref mS, .ref mL, .ref mR, .ref mE, .ref mK, .ref mV, .int dr, .int dc, .int ds, .int ru, .int cl, .ref mO, .int os, .int fc, .ref mA, .ref mB, .ref mU, .ref mW, .int pi, .int wh, .long ms, .int aq, .int da, .ref mX, .ref mY, .long lu, .long ld, .long qu, .long qd])), (mT, .inl (cI, 800, .inl mt))] s.heap.size = A at hD ⊢
  have hA : ∀ q : Nat, s.heap.size ≤ q → A q := fun q h => by rw [← hAe]; exact Or.inr h
  have hS : va_S A s.heap s.heap [] := va_S.rf
  have hl := lv_entry ([.ref oM, .int i]) (n := 2) (Nat.le_of_ble_eq_true rfl)
  rw [lg_entry_eq]
  generalize (lg_sl ([.ref oM, .int i]) ++ List.replicate (2 - (lg_sl ([.ref oM, .int i])).length) Slot.unset).toArray = ls at hl ⊢
  have hl : lv_has ls 2 [(0, .ref oM), (1, .int i)] := hl
  have hP : va_P (dC, dI) vwCl [(oM, .inr (8, [.int th, .ref mT, .int ml, .int ma, .int mk, .int mp, .long mv, .int mw, .ref mN, .ref mD, .ref mF, .ref mS, .ref mL, .ref mR, .ref mE, .ref mK, .ref mV, .int dr, .int dc, .int ds, .int ru, .int cl, .ref mO, .int os, .int fc, .ref mA, .ref mB, .ref mU, .ref mW, .int pi, .int wh, .long ms, .int aq, .int da, .ref mX, .ref mY, .long lu, .long ld, .long qu, .long qd])), (mT, .inl (cI, 800, .inl mt))] s.heap := hP
  have hF : f_Model_character i ml mt = (if ml ≤ i then (-1) else mt i.toNatClampNeg) := rfl
  refine lv_iload_n hx hb d_Model_character_0 rfl (lv_at hl 1 rfl) ?_
  refine lv_aload_n hx hb d_Model_character_1 rfl (lv_at hl 0 rfl) ?_
  refine va_get (D := (dC, dI)) (ci := 8) (v := .int ml) (C := "PermitRulesModel") (T := T_Model) (N := 40) hx hb htb in_Model hown hK hP 0 rfl rfl 2 (by decide) (htb _ mb_655) (fun _ h9 => h9) rfl d_Model_character_2 ?_
  refine lv_icmp_ge (tgt := 17) hx hb d_Model_character_5 (by decide) (fun c_1 => ?_) (fun c_1 => ?_)
  · have hF := hF.trans (if_pos c_1)
    have tc_1 := ti_le (Eq.refl ml.toInt) (Eq.refl i.toInt) c_1
    refine lv_iconst (v := (-1)) hx hb d_Model_character_17 (by decide) ?_
    have hP9 := hP.sub (ws' := [(oM, .inr (8, [.int th, .ref mT, .int ml, .int ma, .int mk, .int mp, .long mv, .int mw, .ref mN, .ref mD, .ref mF, .ref mS, .ref mL, .ref mR, .ref mE, .ref mK, .ref mV, .int dr, .int dc, .int ds, .int ru, .int cl, .ref mO, .int os, .int fc, .ref mA, .ref mB, .ref mU, .ref mW, .int pi, .int wh, .long ms, .int aq, .int da, .ref mX, .ref mY, .long lu, .long ld, .long qu, .long qd])), (mT, .inl (cI, 800, .inl mt))]) [0, 1] rfl
    have hD9 := hD.sub (ws' := [(oM, .inr (8, [.int th, .ref mT, .int ml, .int ma, .int mk, .int mp, .long mv, .int mw, .ref mN, .ref mD, .ref mF, .ref mS, .ref mL, .ref mR, .ref mE, .ref mK, .ref mV, .int dr, .int dc, .int ds, .int ru, .int cl, .ref mO, .int os, .int fc, .ref mA, .ref mB, .ref mU, .ref mW, .int pi, .int wh, .long ms, .int aq, .int da, .ref mX, .ref mY, .long lu, .long ld, .long qu, .long qd])), (mT, .inl (cI, 800, .inl mt))]) [0, 1] (by decide) rfl
    exact W.iret (v := ((-1) : Int32)) hx hb hr (fun t ht hW => ⟨⟨((-1) : Int32), (), rfl, by rw [hF], by rw [ht]; exact hP9, hD9⟩, hS.F ht⟩) hS.2.2 d_Model_character_18
  · have hF := hF.trans (if_neg c_1)
    have tc_1 := ti_nle (Eq.refl ml.toInt) (Eq.refl i.toInt) c_1
    refine lv_aload_n hx hb d_Model_character_8 rfl (lv_at hl 0 rfl) ?_
    refine va_get (D := (dC, dI)) (ci := 8) (v := .ref mT) (C := "PermitRulesModel") (T := T_Model) (N := 40) hx hb htb in_Model hown hK hP 0 rfl rfl 1 (by decide) (htb _ mb_654) (fun _ h9 => h9) rfl d_Model_character_9 ?_
    refine lv_iload_n hx hb d_Model_character_12 rfl (lv_at hl 1 rfl) ?_
    refine va_iald hx hb hK hP 1 1 rfl rfl (ib_in (Eq.refl i.toInt) (by omega) (by omega)) d_Model_character_13 ?_
    refine lv_goto (tgt := 18) hx hb d_Model_character_14 (by decide) ?_
    have hP9 := hP.sub (ws' := [(oM, .inr (8, [.int th, .ref mT, .int ml, .int ma, .int mk, .int mp, .long mv, .int mw, .ref mN, .ref mD, .ref mF, .ref mS, .ref mL, .ref mR, .ref mE, .ref mK, .ref mV, .int dr, .int dc, .int ds, .int ru, .int cl, .ref mO, .int os, .int fc, .ref mA, .ref mB, .ref mU, .ref mW, .int pi, .int wh, .long ms, .int aq, .int da, .ref mX, .ref mY, .long lu, .long ld, .long qu, .long qd])), (mT, .inl (cI, 800, .inl mt))]) [0, 1] rfl
    have hD9 := hD.sub (ws' := [(oM, .inr (8, [.int th, .ref mT, .int ml, .int ma, .int mk, .int mp, .long mv, .int mw, .ref mN, .ref mD, .ref mF, .ref mS, .ref mL, .ref mR, .ref mE, .ref mK, .ref mV, .int dr, .int dc, .int ds, .int ru, .int cl, .ref mO, .int os, .int fc, .ref mA, .ref mB, .ref mU, .ref mW, .int pi, .int wh, .long ms, .int aq, .int da, .ref mX, .ref mY, .long lu, .long ld, .long qu, .long qd])), (mT, .inl (cI, 800, .inl mt))]) [0, 1] (by decide) rfl
    exact W.iret (v := mt i.toNatClampNeg) hx hb hr (fun t ht hW => ⟨⟨mt i.toNatClampNeg, (), rfl, by rw [hF], by rw [ht]; exact hP9, hD9⟩, hS.F ht⟩) hS.2.2 d_Model_character_18
def f_Model_isDigit (i : Int32) (ml : Int32) (mt : (Nat → Int32)) : Int32 := (lt_ (f_Model_character i ml mt) fun z_1 => (lt_ (f_Model_in z_1.toInt64 48 57) fun z_2 => z_2))
abbrev q_Model_isDigit (dC : Nat → ClassId) (dI : Nat → Nat → Nat) (cB cI cJ : ClassId) (oM mT mN mD mF mS mL mR mE mK mV mO mA mB mU mW mX mY : Nat) (i : Int32) (th : Int32) (ml : Int32) (ma : Int32) (mk : Int32) (mp : Int32) (mv : Int64) (mw : Int32) (dr : Int32) (dc : Int32) (ds : Int32) (ru : Int32) (cl : Int32) (os : Int32) (fc : Int32) (pi : Int32) (wh : Int32) (ms : Int64) (aq : Int32) (da : Int32) (lu : Int64) (ld : Int64) (qu : Int64) (qd : Int64) (mt : (Nat → Int32)) (A : Nat → Prop) : Array Value → State → Outcome → State → Prop := va_Qi (fun (r : Int32) (u : Unit) => r = f_Model_isDigit i ml mt) (fun u t => va_P (dC, dI) vwCl [(oM, .inr (8, [.int th, .ref mT, .int ml, .int ma, .int mk, .int mp, .long mv, .int mw, .ref mN, .ref mD, .ref mF, .ref mS, .ref mL, .ref mR, .ref mE, .ref mK, .ref mV, .int dr, .int dc, .int ds, .int ru, .int cl, .ref mO, .int os, .int fc, .ref mA, .ref mB, .ref mU, .ref mW, .int pi, .int wh, .long ms, .int aq, .int da, .ref mX, .ref mY, .long lu, .long ld, .long qu, .long qd])), (mT, .inl (cI, 800, .inl mt))] t.heap ∧ va_D A [(oM, .inr (8, [.int th, .ref mT, .int ml, .int ma, .int mk, .int mp, .long mv, .int mw, .ref mN, .ref mD, .ref mF, .ref mS, .ref mL, .ref mR, .ref mE, .ref mK, .ref mV, .int dr, .int dc, .int ds, .int ru, .int cl, .ref mO, .int os, .int fc, .ref mA, .ref mB, .ref mU, .ref mW, .int pi, .int wh, .long ms, .int aq, .int da, .ref mX, .ref mY, .long lu, .long ld, .long qu, .long qd])), (mT, .inl (cI, 800, .inl mt))]) A
set_option maxHeartbeats 4000000 in
set_option maxRecDepth 100000 in
theorem c_Model_isDigit (l : Launch) (dC : Nat → ClassId) (dI : Nat → Nat → Nat) (cB cI cJ : ClassId) (oM mT mN mD mF mS mL mR mE mK mV mO mA mB mU mW mX mY : Nat) (sz : Nat) (i : Int32) (th : Int32) (ml : Int32) (ma : Int32) (mk : Int32) (mp : Int32) (mv : Int64) (mw : Int32) (dr : Int32) (dc : Int32) (ds : Int32) (ru : Int32) (cl : Int32) (os : Int32) (fc : Int32) (pi : Int32) (wh : Int32) (ms : Int64) (aq : Int32) (da : Int32) (lu : Int64) (ld : Int64) (qu : Int64) (qd : Int64) (mt : (Nat → Int32)) (h0 : 0 ≤ i.toInt) (hL : ml.toInt ≤ 800) : Met l y_Model_isDigit (cw_Model_isDigit :: bgw) { frames := 1, cells := 0, slots := 0, locals := 25 } (va_Pc [.ref oM, .int i] (kb_B dC dI cB cI cJ [(oM, .inr (8, [.int th, .ref mT, .int ml, .int ma, .int mk, .int mp, .long mv, .int mw, .ref mN, .ref mD, .ref mF, .ref mS, .ref mL, .ref mR, .ref mE, .ref mK, .ref mV, .int dr, .int dc, .int ds, .int ru, .int cl, .ref mO, .int os, .int fc, .ref mA, .ref mB, .ref mU, .ref mW, .int pi, .int wh, .long ms, .int aq, .int da, .ref mX, .ref mY, .long lu, .long ld, .long qu, .long qd])), (mT, .inl (cI, 800, .inl mt))] sz)) (q_Model_isDigit dC dI cB cI cJ oM mT mN mD mF mS mL mR mE mK mV mO mA mB mU mW mX mY i th ml ma mk mp mv mw dr dc ds ru cl os fc pi wh ms aq da lu ld qu qd mt (va_A [(oM, .inr (8, [.int th, .ref mT, .int ml, .int ma, .int mk, .int mp, .long mv, .int mw, .ref mN, .ref mD, .ref mF, .ref mS, .ref mL, .ref mR, .ref mE, .ref mK, .ref mV, .int dr, .int dc, .int ds, .int ru, .int cl, .ref mO, .int os, .int fc, .ref mA, .ref mB, .ref mU, .ref mW, .int pi, .int wh, .long ms, .int aq, .int da, .ref mX, .ref mY, .long lu, .long ld, .long qu, .long qd])), (mT, .inl (cI, 800, .inl mt))] sz)) 0 0 (va_A [(oM, .inr (8, [.int th, .ref mT, .int ml, .int ma, .int mk, .int mp, .long mv, .int mw, .ref mN, .ref mD, .ref mF, .ref mS, .ref mL, .ref mR, .ref mE, .ref mK, .ref mV, .int dr, .int dc, .int ds, .int ru, .int cl, .ref mO, .int os, .int fc, .ref mA, .ref mB, .ref mU, .ref mW, .int pi, .int wh, .long ms, .int aq, .int da, .ref mX, .ref mY, .long lu, .long ld, .long qu, .long qd])), (mT, .inl (cI, 800, .inl mt))] sz) := by
  refine Met.ofW (cc := prog_10_method_7_code) (maxL := 2) (ret := (some .boolean)) (by decide) rfl ?_
  intro p e s m args below meth c s₁ B hml hv
  obtain ⟨rfl, hsz, hP, hKx, hD0⟩ := hv
  have hx := B.exec
  have hb := B.bytes
  have hr := B.returns
  have hts := atoms_spec (ws := (cw_Model_isDigit :: bgw)) B.pre
  have hown : s.vm.findClass "PermitRulesModel" = some m.cls := findClass_of_methodNamed B.named
  have hlocks := B.notSynchronized
  have htb := fun (w : Cond) (h : w ∈ bgw) => hts w (List.mem_cons_of_mem _ h)
  have hK := hKx.1
  subst hsz
  have hD := hD0.self (sz := s.heap.size)
  generalize hAe : va_A [(oM, .inr (8, [.int th, .ref mT, .int ml, .int ma, .int mk, .int mp, .long mv, .int mw, .ref mN, .ref mD, .ref mF, .ref mS, .ref mL, .ref mR, .ref mE, .ref mK, .ref mV, .int dr, .int dc, .int ds, .int ru, .int cl, .ref mO, .int os, .int fc, .ref mA, .ref mB, .ref mU, .ref mW, .int pi, .int wh, .long ms, .int aq, .int da, .ref mX, .ref mY, .long lu, .long ld, .long qu, .long qd])), (mT, .inl (cI, 800, .inl mt))] s.heap.size = A at hD ⊢
  have hA : ∀ q : Nat, s.heap.size ≤ q → A q := fun q h => by rw [← hAe]; exact Or.inr h
  have hS : va_S A s.heap s.heap [] := va_S.rf
  have hl := lv_entry ([.ref oM, .int i]) (n := 2) (Nat.le_of_ble_eq_true rfl)
  rw [lg_entry_eq]
  generalize (lg_sl ([.ref oM, .int i]) ++ List.replicate (2 - (lg_sl ([.ref oM, .int i])).length) Slot.unset).toArray = ls at hl ⊢
  have hl : lv_has ls 2 [(0, .ref oM), (1, .int i)] := hl
  have hP : va_P (dC, dI) vwCl [(oM, .inr (8, [.int th, .ref mT, .int ml, .int ma, .int mk, .int mp, .long mv, .int mw, .ref mN, .ref mD, .ref mF, .ref mS, .ref mL, .ref mR, .ref mE, .ref mK, .ref mV, .int dr, .int dc, .int ds, .int ru, .int cl, .ref mO, .int os, .int fc, .ref mA, .ref mB, .ref mU, .ref mW, .int pi, .int wh, .long ms, .int aq, .int da, .ref mX, .ref mY, .long lu, .long ld, .long qu, .long qd])), (mT, .inl (cI, 800, .inl mt))] s.heap := hP
  have hF : f_Model_isDigit i ml mt = (lt_ (f_Model_character i ml mt) fun z_1 => (lt_ (f_Model_in z_1.toInt64 48 57) fun z_2 => z_2)) := rfl
  refine lv_aload_n hx hb d_Model_isDigit_0 rfl (lv_at hl 0 rfl) ?_
  refine lv_iload_n hx hb d_Model_isDigit_1 rfl (lv_at hl 1 rfl) ?_
  have hPc := hP.sub (ws' := [(oM, .inr (8, [.int th, .ref mT, .int ml, .int ma, .int mk, .int mp, .long mv, .int mw, .ref mN, .ref mD, .ref mF, .ref mS, .ref mL, .ref mR, .ref mE, .ref mK, .ref mV, .int dr, .int dc, .int ds, .int ru, .int cl, .ref mO, .int os, .int fc, .ref mA, .ref mB, .ref mU, .ref mW, .int pi, .int wh, .long ms, .int aq, .int da, .ref mX, .ref mY, .long lu, .long ld, .long qu, .long qd])), (mT, .inl (cI, 800, .inl mt))]) [0, 1] rfl
  have hDc := hD.sub (ws' := [(oM, .inr (8, [.int th, .ref mT, .int ml, .int ma, .int mk, .int mp, .long mv, .int mw, .ref mN, .ref mD, .ref mF, .ref mS, .ref mL, .ref mR, .ref mE, .ref mK, .ref mV, .int dr, .int dc, .int ds, .int ru, .int cl, .ref mO, .int os, .int fc, .ref mA, .ref mB, .ref mU, .ref mW, .int pi, .int wh, .long ms, .int aq, .int da, .ref mX, .ref mY, .long lu, .long ld, .long qu, .long qd])), (mT, .inl (cI, 800, .inl mt))]) [0, 1] (by decide) rfl
  have hFc := va_free (wc := [(oM, .inr (8, [.int th, .ref mT, .int ml, .int ma, .int mk, .int mp, .long mv, .int mw, .ref mN, .ref mD, .ref mF, .ref mS, .ref mL, .ref mR, .ref mE, .ref mK, .ref mV, .int dr, .int dc, .int ds, .int ru, .int cl, .ref mO, .int os, .int fc, .ref mA, .ref mB, .ref mU, .ref mW, .int pi, .int wh, .long ms, .int aq, .int da, .ref mX, .ref mY, .long lu, .long ld, .long qu, .long qd])), (mT, .inl (cI, 800, .inl mt))]) hD hS hA [0, 1] rfl
  refine va_calli (va_runV (As := [.int i]) (rest := []) ⟨hx, hb, hml, hown, htb⟩ (c_Model_character l dC dI cB cI cJ oM mT mN mD mF mS mL mR mE mK mV mO mA mB mU mW mX mY _ i th ml ma mk mp mv mw dr dc ds ru cl os fc pi wh ms aq da lu ld qu qd mt (by omega) (by omega)) ⟨callB_of 1 htb (gb_all mb_803) rfl rfl rfl (htb _ mb_9) (htb _ mb_800) (by decide +kernel) ⟨Nat.le_of_ble_eq_true rfl, Nat.le_of_ble_eq_true rfl⟩, htb _ mb_802, htb _ mp_18⟩ ⟨kb_blind, va_recv hK hPc (ci := 8) (q0 := 0) rfl rfl, kb_at hPc hDc hKx⟩ rfl rfl hl.1 rfl (lv_room (Nat.le_of_ble_eq_true rfl)) d_Model_isDigit_2 ⟨Nat.le_of_ble_eq_true rfl, Nat.le_of_ble_eq_true rfl⟩) hS (fun q _ h => hFc q h) hFc (fun z_1 u t H1 locs ht hvm hw hB hz1 hk1 hS => ?_)
  have hz_1 := hw
  have hF := hF.trans (lt_e hz_1)
  obtain ⟨hP1, hD1⟩ := hB
  rw [ht] at hP1
  obtain ⟨hP, hD⟩ := va_join (wr := []) (w1 := [(oM, .inr (8, [.int th, .ref mT, .int ml, .int ma, .int mk, .int mp, .long mv, .int mw, .ref mN, .ref mD, .ref mF, .ref mS, .ref mL, .ref mR, .ref mE, .ref mK, .ref mV, .int dr, .int dc, .int ds, .int ru, .int cl, .ref mO, .int os, .int fc, .ref mA, .ref mB, .ref mU, .ref mW, .int pi, .int wh, .long ms, .int aq, .int da, .ref mX, .ref mY, .long lu, .long ld, .long qu, .long qd])), (mT, .inl (cI, 800, .inl mt))]) hP hD [0, 1] [] rfl rfl (by decide) (by decide) hk1 hFc hP1 hD1
  generalize H1 = H at hP hS ⊢
  have hP : va_P (dC, dI) vwCl [(oM, .inr (8, [.int th, .ref mT, .int ml, .int ma, .int mk, .int mp, .long mv, .int mw, .ref mN, .ref mD, .ref mF, .ref mS, .ref mL, .ref mR, .ref mE, .ref mK, .ref mV, .int dr, .int dc, .int ds, .int ru, .int cl, .ref mO, .int os, .int fc, .ref mA, .ref mB, .ref mU, .ref mW, .int pi, .int wh, .long ms, .int aq, .int da, .ref mX, .ref mY, .long lu, .long ld, .long qu, .long qd])), (mT, .inl (cI, 800, .inl mt))] H := hP
  have hD : va_D A [(oM, .inr (8, [.int th, .ref mT, .int ml, .int ma, .int mk, .int mp, .long mv, .int mw, .ref mN, .ref mD, .ref mF, .ref mS, .ref mL, .ref mR, .ref mE, .ref mK, .ref mV, .int dr, .int dc, .int ds, .int ru, .int cl, .ref mO, .int os, .int fc, .ref mA, .ref mB, .ref mU, .ref mW, .int pi, .int wh, .long ms, .int aq, .int da, .ref mX, .ref mY, .long lu, .long ld, .long qu, .long qd])), (mT, .inl (cI, 800, .inl mt))] := hD
  refine lv_i2l (v := z_1.toInt64) hx hb d_Model_isDigit_5 rfl ?_
  refine lv_ldc2 (v := 48) hx hb hown (htb _ mb_808) d_Model_isDigit_6 ?_
  refine lv_ldc2 (v := 57) hx hb hown (htb _ mb_809) d_Model_isDigit_9 ?_
  have hPc := hP.sub (ws' := []) [] rfl
  have hDc := hD.sub (ws' := []) [] (by decide) rfl
  have hFc := va_free (wc := []) hD hS hA [] rfl
  refine va_calli (va_runS (As := [.long z_1.toInt64, .long 48, .long 57]) (rest := []) ⟨hx, hb, hml, hown, htb⟩ (c_Model_in l dC dI cB cI cJ  _ z_1.toInt64 48 57 ) ⟨callB_of 3 htb (gb_all mb_787) rfl rfl rfl (htb _ mb_9) (htb _ mb_785) (by decide +kernel) ⟨Nat.le_of_ble_eq_true rfl, Nat.le_of_ble_eq_true rfl⟩, htb _ mb_786⟩ ⟨kb_blind, kb_at hPc hDc hKx⟩ rfl rfl hl.1 rfl (lv_room (Nat.le_of_ble_eq_true rfl)) d_Model_isDigit_12 ⟨Nat.le_of_ble_eq_true rfl, Nat.le_of_ble_eq_true rfl⟩) hS (fun q _ h => hFc q h) hFc (fun z_2 u t H1 locs ht hvm hw hB hz1 hk1 hS => ?_)
  have hz_2 := hw
  have hF := hF.trans (lt_e hz_2)
  obtain ⟨hP1, hD1⟩ := hB
  rw [ht] at hP1
  obtain ⟨hP, hD⟩ := va_join (wr := [(oM, .inr (8, [.int th, .ref mT, .int ml, .int ma, .int mk, .int mp, .long mv, .int mw, .ref mN, .ref mD, .ref mF, .ref mS, .ref mL, .ref mR, .ref mE, .ref mK, .ref mV, .int dr, .int dc, .int ds, .int ru, .int cl, .ref mO, .int os, .int fc, .ref mA, .ref mB, .ref mU, .ref mW, .int pi, .int wh, .long ms, .int aq, .int da, .ref mX, .ref mY, .long lu, .long ld, .long qu, .long qd])), (mT, .inl (cI, 800, .inl mt))]) (w1 := []) hP hD [] [0, 1] rfl rfl (by decide) (by decide) hk1 hFc hP1 hD1
  generalize H1 = H at hP hS ⊢
  have hP : va_P (dC, dI) vwCl [(oM, .inr (8, [.int th, .ref mT, .int ml, .int ma, .int mk, .int mp, .long mv, .int mw, .ref mN, .ref mD, .ref mF, .ref mS, .ref mL, .ref mR, .ref mE, .ref mK, .ref mV, .int dr, .int dc, .int ds, .int ru, .int cl, .ref mO, .int os, .int fc, .ref mA, .ref mB, .ref mU, .ref mW, .int pi, .int wh, .long ms, .int aq, .int da, .ref mX, .ref mY, .long lu, .long ld, .long qu, .long qd])), (mT, .inl (cI, 800, .inl mt))] H := hP
  have hD : va_D A [(oM, .inr (8, [.int th, .ref mT, .int ml, .int ma, .int mk, .int mp, .long mv, .int mw, .ref mN, .ref mD, .ref mF, .ref mS, .ref mL, .ref mR, .ref mE, .ref mK, .ref mV, .int dr, .int dc, .int ds, .int ru, .int cl, .ref mO, .int os, .int fc, .ref mA, .ref mB, .ref mU, .ref mW, .int pi, .int wh, .long ms, .int aq, .int da, .ref mX, .ref mY, .long lu, .long ld, .long qu, .long qd])), (mT, .inl (cI, 800, .inl mt))] := hD
  have hP9 := hP.sub (ws' := [(oM, .inr (8, [.int th, .ref mT, .int ml, .int ma, .int mk, .int mp, .long mv, .int mw, .ref mN, .ref mD, .ref mF, .ref mS, .ref mL, .ref mR, .ref mE, .ref mK, .ref mV, .int dr, .int dc, .int ds, .int ru, .int cl, .ref mO, .int os, .int fc, .ref mA, .ref mB, .ref mU, .ref mW, .int pi, .int wh, .long ms, .int aq, .int da, .ref mX, .ref mY, .long lu, .long ld, .long qu, .long qd])), (mT, .inl (cI, 800, .inl mt))]) [0, 1] rfl
  have hD9 := hD.sub (ws' := [(oM, .inr (8, [.int th, .ref mT, .int ml, .int ma, .int mk, .int mp, .long mv, .int mw, .ref mN, .ref mD, .ref mF, .ref mS, .ref mL, .ref mR, .ref mE, .ref mK, .ref mV, .int dr, .int dc, .int ds, .int ru, .int cl, .ref mO, .int os, .int fc, .ref mA, .ref mB, .ref mU, .ref mW, .int pi, .int wh, .long ms, .int aq, .int da, .ref mX, .ref mY, .long lu, .long ld, .long qu, .long qd])), (mT, .inl (cI, 800, .inl mt))]) [0, 1] (by decide) rfl
  exact W.zret (v := z_2) hx hb hr (by rw [hz_2]; exact nb_in _ _ _) (fun t ht hW => ⟨⟨z_2, (), rfl, by rw [hF], by rw [ht]; exact hP9, hD9⟩, hS.F ht⟩) hS.2.2 d_Model_isDigit_15
def f_Model_isLetter (i : Int32) (ml : Int32) (mt : (Nat → Int32)) : Int32 := (lt_ (f_Model_character i ml mt) fun z_1 => (lt_ (f_Model_in z_1.toInt64 97 122) fun z_2 => z_2))
abbrev q_Model_isLetter (dC : Nat → ClassId) (dI : Nat → Nat → Nat) (cB cI cJ : ClassId) (oM mT mN mD mF mS mL mR mE mK mV mO mA mB mU mW mX mY : Nat) (i : Int32) (th : Int32) (ml : Int32) (ma : Int32) (mk : Int32) (mp : Int32) (mv : Int64) (mw : Int32) (dr : Int32) (dc : Int32) (ds : Int32) (ru : Int32) (cl : Int32) (os : Int32) (fc : Int32) (pi : Int32) (wh : Int32) (ms : Int64) (aq : Int32) (da : Int32) (lu : Int64) (ld : Int64) (qu : Int64) (qd : Int64) (mt : (Nat → Int32)) (A : Nat → Prop) : Array Value → State → Outcome → State → Prop := va_Qi (fun (r : Int32) (u : Unit) => r = f_Model_isLetter i ml mt) (fun u t => va_P (dC, dI) vwCl [(oM, .inr (8, [.int th, .ref mT, .int ml, .int ma, .int mk, .int mp, .long mv, .int mw, .ref mN, .ref mD, .ref mF, .ref mS, .ref mL, .ref mR, .ref mE, .ref mK, .ref mV, .int dr, .int dc, .int ds, .int ru, .int cl, .ref mO, .int os, .int fc, .ref mA, .ref mB, .ref mU, .ref mW, .int pi, .int wh, .long ms, .int aq, .int da, .ref mX, .ref mY, .long lu, .long ld, .long qu, .long qd])), (mT, .inl (cI, 800, .inl mt))] t.heap ∧ va_D A [(oM, .inr (8, [.int th, .ref mT, .int ml, .int ma, .int mk, .int mp, .long mv, .int mw, .ref mN, .ref mD, .ref mF, .ref mS, .ref mL, .ref mR, .ref mE, .ref mK, .ref mV, .int dr, .int dc, .int ds, .int ru, .int cl, .ref mO, .int os, .int fc, .ref mA, .ref mB, .ref mU, .ref mW, .int pi, .int wh, .long ms, .int aq, .int da, .ref mX, .ref mY, .long lu, .long ld, .long qu, .long qd])), (mT, .inl (cI, 800, .inl mt))]) A
set_option maxHeartbeats 4000000 in
set_option maxRecDepth 100000 in
theorem c_Model_isLetter (l : Launch) (dC : Nat → ClassId) (dI : Nat → Nat → Nat) (cB cI cJ : ClassId) (oM mT mN mD mF mS mL mR mE mK mV mO mA mB mU mW mX mY : Nat) (sz : Nat) (i : Int32) (th : Int32) (ml : Int32) (ma : Int32) (mk : Int32) (mp : Int32) (mv : Int64) (mw : Int32) (dr : Int32) (dc : Int32) (ds : Int32) (ru : Int32) (cl : Int32) (os : Int32) (fc : Int32) (pi : Int32) (wh : Int32) (ms : Int64) (aq : Int32) (da : Int32) (lu : Int64) (ld : Int64) (qu : Int64) (qd : Int64) (mt : (Nat → Int32)) (h0 : 0 ≤ i.toInt) (hL : ml.toInt ≤ 800) : Met l y_Model_isLetter (cw_Model_isLetter :: bgw) { frames := 1, cells := 0, slots := 0, locals := 25 } (va_Pc [.ref oM, .int i] (kb_B dC dI cB cI cJ [(oM, .inr (8, [.int th, .ref mT, .int ml, .int ma, .int mk, .int mp, .long mv, .int mw, .ref mN, .ref mD, .ref mF, .ref mS, .ref mL, .ref mR, .ref mE, .ref mK, .ref mV, .int dr, .int dc, .int ds, .int ru, .int cl, .ref mO, .int os, .int fc, .ref mA, .ref mB, .ref mU, .ref mW, .int pi, .int wh, .long ms, .int aq, .int da, .ref mX, .ref mY, .long lu, .long ld, .long qu, .long qd])), (mT, .inl (cI, 800, .inl mt))] sz)) (q_Model_isLetter dC dI cB cI cJ oM mT mN mD mF mS mL mR mE mK mV mO mA mB mU mW mX mY i th ml ma mk mp mv mw dr dc ds ru cl os fc pi wh ms aq da lu ld qu qd mt (va_A [(oM, .inr (8, [.int th, .ref mT, .int ml, .int ma, .int mk, .int mp, .long mv, .int mw, .ref mN, .ref mD, .ref mF, .ref mS, .ref mL, .ref mR, .ref mE, .ref mK, .ref mV, .int dr, .int dc, .int ds, .int ru, .int cl, .ref mO, .int os, .int fc, .ref mA, .ref mB, .ref mU, .ref mW, .int pi, .int wh, .long ms, .int aq, .int da, .ref mX, .ref mY, .long lu, .long ld, .long qu, .long qd])), (mT, .inl (cI, 800, .inl mt))] sz)) 0 0 (va_A [(oM, .inr (8, [.int th, .ref mT, .int ml, .int ma, .int mk, .int mp, .long mv, .int mw, .ref mN, .ref mD, .ref mF, .ref mS, .ref mL, .ref mR, .ref mE, .ref mK, .ref mV, .int dr, .int dc, .int ds, .int ru, .int cl, .ref mO, .int os, .int fc, .ref mA, .ref mB, .ref mU, .ref mW, .int pi, .int wh, .long ms, .int aq, .int da, .ref mX, .ref mY, .long lu, .long ld, .long qu, .long qd])), (mT, .inl (cI, 800, .inl mt))] sz) := by
  refine Met.ofW (cc := prog_10_method_8_code) (maxL := 2) (ret := (some .boolean)) (by decide) rfl ?_
  intro p e s m args below meth c s₁ B hml hv
  obtain ⟨rfl, hsz, hP, hKx, hD0⟩ := hv
  have hx := B.exec
  have hb := B.bytes
  have hr := B.returns
  have hts := atoms_spec (ws := (cw_Model_isLetter :: bgw)) B.pre
  have hown : s.vm.findClass "PermitRulesModel" = some m.cls := findClass_of_methodNamed B.named
  have hlocks := B.notSynchronized
  have htb := fun (w : Cond) (h : w ∈ bgw) => hts w (List.mem_cons_of_mem _ h)
  have hK := hKx.1
  subst hsz
  have hD := hD0.self (sz := s.heap.size)
  generalize hAe : va_A [(oM, .inr (8, [.int th, .ref mT, .int ml, .int ma, .int mk, .int mp, .long mv, .int mw, .ref mN, .ref mD, .ref mF, .ref mS, .ref mL, .ref mR, .ref mE, .ref mK, .ref mV, .int dr, .int dc, .int ds, .int ru, .int cl, .ref mO, .int os, .int fc, .ref mA, .ref mB, .ref mU, .ref mW, .int pi, .int wh, .long ms, .int aq, .int da, .ref mX, .ref mY, .long lu, .long ld, .long qu, .long qd])), (mT, .inl (cI, 800, .inl mt))] s.heap.size = A at hD ⊢
  have hA : ∀ q : Nat, s.heap.size ≤ q → A q := fun q h => by rw [← hAe]; exact Or.inr h
  have hS : va_S A s.heap s.heap [] := va_S.rf
  have hl := lv_entry ([.ref oM, .int i]) (n := 2) (Nat.le_of_ble_eq_true rfl)
  rw [lg_entry_eq]
  generalize (lg_sl ([.ref oM, .int i]) ++ List.replicate (2 - (lg_sl ([.ref oM, .int i])).length) Slot.unset).toArray = ls at hl ⊢
  have hl : lv_has ls 2 [(0, .ref oM), (1, .int i)] := hl
  have hP : va_P (dC, dI) vwCl [(oM, .inr (8, [.int th, .ref mT, .int ml, .int ma, .int mk, .int mp, .long mv, .int mw, .ref mN, .ref mD, .ref mF, .ref mS, .ref mL, .ref mR, .ref mE, .ref mK, .ref mV, .int dr, .int dc, .int ds, .int ru, .int cl, .ref mO, .int os, .int fc, .ref mA, .ref mB, .ref mU, .ref mW, .int pi, .int wh, .long ms, .int aq, .int da, .ref mX, .ref mY, .long lu, .long ld, .long qu, .long qd])), (mT, .inl (cI, 800, .inl mt))] s.heap := hP
  have hF : f_Model_isLetter i ml mt = (lt_ (f_Model_character i ml mt) fun z_1 => (lt_ (f_Model_in z_1.toInt64 97 122) fun z_2 => z_2)) := rfl
  refine lv_aload_n hx hb d_Model_isLetter_0 rfl (lv_at hl 0 rfl) ?_
  refine lv_iload_n hx hb d_Model_isLetter_1 rfl (lv_at hl 1 rfl) ?_
  have hPc := hP.sub (ws' := [(oM, .inr (8, [.int th, .ref mT, .int ml, .int ma, .int mk, .int mp, .long mv, .int mw, .ref mN, .ref mD, .ref mF, .ref mS, .ref mL, .ref mR, .ref mE, .ref mK, .ref mV, .int dr, .int dc, .int ds, .int ru, .int cl, .ref mO, .int os, .int fc, .ref mA, .ref mB, .ref mU, .ref mW, .int pi, .int wh, .long ms, .int aq, .int da, .ref mX, .ref mY, .long lu, .long ld, .long qu, .long qd])), (mT, .inl (cI, 800, .inl mt))]) [0, 1] rfl
  have hDc := hD.sub (ws' := [(oM, .inr (8, [.int th, .ref mT, .int ml, .int ma, .int mk, .int mp, .long mv, .int mw, .ref mN, .ref mD, .ref mF, .ref mS, .ref mL, .ref mR, .ref mE, .ref mK, .ref mV, .int dr, .int dc, .int ds, .int ru, .int cl, .ref mO, .int os, .int fc, .ref mA, .ref mB, .ref mU, .ref mW, .int pi, .int wh, .long ms, .int aq, .int da, .ref mX, .ref mY, .long lu, .long ld, .long qu, .long qd])), (mT, .inl (cI, 800, .inl mt))]) [0, 1] (by decide) rfl
  have hFc := va_free (wc := [(oM, .inr (8, [.int th, .ref mT, .int ml, .int ma, .int mk, .int mp, .long mv, .int mw, .ref mN, .ref mD, .ref mF, .ref mS, .ref mL, .ref mR, .ref mE, .ref mK, .ref mV, .int dr, .int dc, .int ds, .int ru, .int cl, .ref mO, .int os, .int fc, .ref mA, .ref mB, .ref mU, .ref mW, .int pi, .int wh, .long ms, .int aq, .int da, .ref mX, .ref mY, .long lu, .long ld, .long qu, .long qd])), (mT, .inl (cI, 800, .inl mt))]) hD hS hA [0, 1] rfl
  refine va_calli (va_runV (As := [.int i]) (rest := []) ⟨hx, hb, hml, hown, htb⟩ (c_Model_character l dC dI cB cI cJ oM mT mN mD mF mS mL mR mE mK mV mO mA mB mU mW mX mY _ i th ml ma mk mp mv mw dr dc ds ru cl os fc pi wh ms aq da lu ld qu qd mt (by omega) (by omega)) ⟨callB_of 1 htb (gb_all mb_803) rfl rfl rfl (htb _ mb_9) (htb _ mb_800) (by decide +kernel) ⟨Nat.le_of_ble_eq_true rfl, Nat.le_of_ble_eq_true rfl⟩, htb _ mb_802, htb _ mp_18⟩ ⟨kb_blind, va_recv hK hPc (ci := 8) (q0 := 0) rfl rfl, kb_at hPc hDc hKx⟩ rfl rfl hl.1 rfl (lv_room (Nat.le_of_ble_eq_true rfl)) d_Model_isLetter_2 ⟨Nat.le_of_ble_eq_true rfl, Nat.le_of_ble_eq_true rfl⟩) hS (fun q _ h => hFc q h) hFc (fun z_1 u t H1 locs ht hvm hw hB hz1 hk1 hS => ?_)
  have hz_1 := hw
  have hF := hF.trans (lt_e hz_1)
  obtain ⟨hP1, hD1⟩ := hB
  rw [ht] at hP1
  obtain ⟨hP, hD⟩ := va_join (wr := []) (w1 := [(oM, .inr (8, [.int th, .ref mT, .int ml, .int ma, .int mk, .int mp, .long mv, .int mw, .ref mN, .ref mD, .ref mF, .ref mS, .ref mL, .ref mR, .ref mE, .ref mK, .ref mV, .int dr, .int dc, .int ds, .int ru, .int cl, .ref mO, .int os, .int fc, .ref mA, .ref mB, .ref mU, .ref mW, .int pi, .int wh, .long ms, .int aq, .int da, .ref mX, .ref mY, .long lu, .long ld, .long qu, .long qd])), (mT, .inl (cI, 800, .inl mt))]) hP hD [0, 1] [] rfl rfl (by decide) (by decide) hk1 hFc hP1 hD1
  generalize H1 = H at hP hS ⊢
  have hP : va_P (dC, dI) vwCl [(oM, .inr (8, [.int th, .ref mT, .int ml, .int ma, .int mk, .int mp, .long mv, .int mw, .ref mN, .ref mD, .ref mF, .ref mS, .ref mL, .ref mR, .ref mE, .ref mK, .ref mV, .int dr, .int dc, .int ds, .int ru, .int cl, .ref mO, .int os, .int fc, .ref mA, .ref mB, .ref mU, .ref mW, .int pi, .int wh, .long ms, .int aq, .int da, .ref mX, .ref mY, .long lu, .long ld, .long qu, .long qd])), (mT, .inl (cI, 800, .inl mt))] H := hP
  have hD : va_D A [(oM, .inr (8, [.int th, .ref mT, .int ml, .int ma, .int mk, .int mp, .long mv, .int mw, .ref mN, .ref mD, .ref mF, .ref mS, .ref mL, .ref mR, .ref mE, .ref mK, .ref mV, .int dr, .int dc, .int ds, .int ru, .int cl, .ref mO, .int os, .int fc, .ref mA, .ref mB, .ref mU, .ref mW, .int pi, .int wh, .long ms, .int aq, .int da, .ref mX, .ref mY, .long lu, .long ld, .long qu, .long qd])), (mT, .inl (cI, 800, .inl mt))] := hD
  refine lv_i2l (v := z_1.toInt64) hx hb d_Model_isLetter_5 rfl ?_
  refine lv_ldc2 (v := 97) hx hb hown (htb _ mb_815) d_Model_isLetter_6 ?_
  refine lv_ldc2 (v := 122) hx hb hown (htb _ mb_816) d_Model_isLetter_9 ?_
  have hPc := hP.sub (ws' := []) [] rfl
  have hDc := hD.sub (ws' := []) [] (by decide) rfl
  have hFc := va_free (wc := []) hD hS hA [] rfl
  refine va_calli (va_runS (As := [.long z_1.toInt64, .long 97, .long 122]) (rest := []) ⟨hx, hb, hml, hown, htb⟩ (c_Model_in l dC dI cB cI cJ  _ z_1.toInt64 97 122 ) ⟨callB_of 3 htb (gb_all mb_787) rfl rfl rfl (htb _ mb_9) (htb _ mb_785) (by decide +kernel) ⟨Nat.le_of_ble_eq_true rfl, Nat.le_of_ble_eq_true rfl⟩, htb _ mb_786⟩ ⟨kb_blind, kb_at hPc hDc hKx⟩ rfl rfl hl.1 rfl (lv_room (Nat.le_of_ble_eq_true rfl)) d_Model_isLetter_12 ⟨Nat.le_of_ble_eq_true rfl, Nat.le_of_ble_eq_true rfl⟩) hS (fun q _ h => hFc q h) hFc (fun z_2 u t H1 locs ht hvm hw hB hz1 hk1 hS => ?_)
  have hz_2 := hw
  have hF := hF.trans (lt_e hz_2)
  obtain ⟨hP1, hD1⟩ := hB
  rw [ht] at hP1
  obtain ⟨hP, hD⟩ := va_join (wr := [(oM, .inr (8, [.int th, .ref mT, .int ml, .int ma, .int mk, .int mp, .long mv, .int mw, .ref mN, .ref mD, .ref mF, .ref mS, .ref mL, .ref mR, .ref mE, .ref mK, .ref mV, .int dr, .int dc, .int ds, .int ru, .int cl, .ref mO, .int os, .int fc, .ref mA, .ref mB, .ref mU, .ref mW, .int pi, .int wh, .long ms, .int aq, .int da, .ref mX, .ref mY, .long lu, .long ld, .long qu, .long qd])), (mT, .inl (cI, 800, .inl mt))]) (w1 := []) hP hD [] [0, 1] rfl rfl (by decide) (by decide) hk1 hFc hP1 hD1
  generalize H1 = H at hP hS ⊢
  have hP : va_P (dC, dI) vwCl [(oM, .inr (8, [.int th, .ref mT, .int ml, .int ma, .int mk, .int mp, .long mv, .int mw, .ref mN, .ref mD, .ref mF, .ref mS, .ref mL, .ref mR, .ref mE, .ref mK, .ref mV, .int dr, .int dc, .int ds, .int ru, .int cl, .ref mO, .int os, .int fc, .ref mA, .ref mB, .ref mU, .ref mW, .int pi, .int wh, .long ms, .int aq, .int da, .ref mX, .ref mY, .long lu, .long ld, .long qu, .long qd])), (mT, .inl (cI, 800, .inl mt))] H := hP
  have hD : va_D A [(oM, .inr (8, [.int th, .ref mT, .int ml, .int ma, .int mk, .int mp, .long mv, .int mw, .ref mN, .ref mD, .ref mF, .ref mS, .ref mL, .ref mR, .ref mE, .ref mK, .ref mV, .int dr, .int dc, .int ds, .int ru, .int cl, .ref mO, .int os, .int fc, .ref mA, .ref mB, .ref mU, .ref mW, .int pi, .int wh, .long ms, .int aq, .int da, .ref mX, .ref mY, .long lu, .long ld, .long qu, .long qd])), (mT, .inl (cI, 800, .inl mt))] := hD
  have hP9 := hP.sub (ws' := [(oM, .inr (8, [.int th, .ref mT, .int ml, .int ma, .int mk, .int mp, .long mv, .int mw, .ref mN, .ref mD, .ref mF, .ref mS, .ref mL, .ref mR, .ref mE, .ref mK, .ref mV, .int dr, .int dc, .int ds, .int ru, .int cl, .ref mO, .int os, .int fc, .ref mA, .ref mB, .ref mU, .ref mW, .int pi, .int wh, .long ms, .int aq, .int da, .ref mX, .ref mY, .long lu, .long ld, .long qu, .long qd])), (mT, .inl (cI, 800, .inl mt))]) [0, 1] rfl
  have hD9 := hD.sub (ws' := [(oM, .inr (8, [.int th, .ref mT, .int ml, .int ma, .int mk, .int mp, .long mv, .int mw, .ref mN, .ref mD, .ref mF, .ref mS, .ref mL, .ref mR, .ref mE, .ref mK, .ref mV, .int dr, .int dc, .int ds, .int ru, .int cl, .ref mO, .int os, .int fc, .ref mA, .ref mB, .ref mU, .ref mW, .int pi, .int wh, .long ms, .int aq, .int da, .ref mX, .ref mY, .long lu, .long ld, .long qu, .long qd])), (mT, .inl (cI, 800, .inl mt))]) [0, 1] (by decide) rfl
  exact W.zret (v := z_2) hx hb hr (by rw [hz_2]; exact nb_in _ _ _) (fun t ht hW => ⟨⟨z_2, (), rfl, by rw [hF], by rw [ht]; exact hP9, hD9⟩, hS.F ht⟩) hS.2.2 d_Model_isLetter_15
def f_Model_isSign (kd : Int32) : Int32 := (if kd = 43 then 1 else (if kd = 45 then 1 else (if kd = 42 then 1 else (if kd = 47 then 1 else (if kd = 40 then 1 else (if kd = 41 then 1 else (if kd = 60 then 1 else (if kd = 61 then 1 else (if kd = 62 then 1 else (if kd = 58 then 1 else (if kd = 59 then 1 else (if kd = 33 then 1 else (if kd = 64 then 1 else 0)))))))))))))
abbrev q_Model_isSign (dC : Nat → ClassId) (dI : Nat → Nat → Nat) (cB cI cJ : ClassId) (kd : Int32) (A : Nat → Prop) : Array Value → State → Outcome → State → Prop := va_Qi (fun (r : Int32) (u : Unit) => r = f_Model_isSign kd) (fun u t => va_P (dC, dI) vwCl [] t.heap ∧ va_D A []) A
set_option maxHeartbeats 4000000 in
set_option maxRecDepth 100000 in
theorem c_Model_isSign (l : Launch) (dC : Nat → ClassId) (dI : Nat → Nat → Nat) (cB cI cJ : ClassId) (sz : Nat) (kd : Int32) : Met l y_Model_isSign (cw_Model_isSign :: bgw) { frames := 0, cells := 0, slots := 0, locals := 0 } (va_Pc [.int kd] (kb_B dC dI cB cI cJ [] sz)) (q_Model_isSign dC dI cB cI cJ kd (va_A [] sz)) 0 0 (va_A [] sz) := by
  refine Met.ofW (cc := prog_10_method_9_code) (maxL := 1) (ret := (some .boolean)) (by decide) rfl ?_
  intro p e s m args below meth c s₁ B hml hv
  obtain ⟨rfl, hsz, hP, hKx, hD0⟩ := hv
  have hx := B.exec
  have hb := B.bytes
  have hr := B.returns
  have hts := atoms_spec (ws := (cw_Model_isSign :: bgw)) B.pre
  have hown : s.vm.findClass "PermitRulesModel" = some m.cls := findClass_of_methodNamed B.named
  have hlocks := B.notSynchronized
  have htb := fun (w : Cond) (h : w ∈ bgw) => hts w (List.mem_cons_of_mem _ h)
  have hK := hKx.1
  subst hsz
  have hD := hD0.self (sz := s.heap.size)
  generalize hAe : va_A [] s.heap.size = A at hD ⊢
  have hA : ∀ q : Nat, s.heap.size ≤ q → A q := fun q h => by rw [← hAe]; exact Or.inr h
  have hS : va_S A s.heap s.heap [] := va_S.rf
  have hl := lv_entry ([.int kd]) (n := 1) (Nat.le_of_ble_eq_true rfl)
  rw [lg_entry_eq]
  generalize (lg_sl ([.int kd]) ++ List.replicate (1 - (lg_sl ([.int kd])).length) Slot.unset).toArray = ls at hl ⊢
  have hl : lv_has ls 1 [(0, .int kd)] := hl
  have hP : va_P (dC, dI) vwCl [] s.heap := hP
  have hF : f_Model_isSign kd = (if kd = 43 then 1 else (if kd = 45 then 1 else (if kd = 42 then 1 else (if kd = 47 then 1 else (if kd = 40 then 1 else (if kd = 41 then 1 else (if kd = 60 then 1 else (if kd = 61 then 1 else (if kd = 62 then 1 else (if kd = 58 then 1 else (if kd = 59 then 1 else (if kd = 33 then 1 else (if kd = 64 then 1 else 0))))))))))))) := rfl
  refine lv_iload_n hx hb d_Model_isSign_0 rfl (lv_at hl 0 rfl) ?_
  refine lv_bipush (v := 43) hx hb d_Model_isSign_1 (by decide) ?_
  refine lv_icmp_eq (tgt := 78) hx hb d_Model_isSign_3 (by decide) (fun c_1 => ?_) (fun c_1 => ?_)
  · have hF := hF.trans (if_pos c_1)
    have tc_1 := ti_eq (Eq.refl kd.toInt) (show (43 : Int32).toInt = 43 by decide) c_1
    refine lv_iconst (v := 1) hx hb d_Model_isSign_78 (by decide) ?_
    refine lv_goto (tgt := 83) hx hb d_Model_isSign_79 (by decide) ?_
    have hP9 := hP.sub (ws' := []) [] rfl
    have hD9 := hD.sub (ws' := []) [] (by decide) rfl
    exact W.zret (v := (1 : Int32)) hx hb hr (rfl) (fun t ht hW => ⟨⟨(1 : Int32), (), rfl, by rw [hF], by rw [ht]; exact hP9, hD9⟩, hS.F ht⟩) hS.2.2 d_Model_isSign_83
  · have hF := hF.trans (if_neg c_1)
    have tc_1 := ti_ne (Eq.refl kd.toInt) (show (43 : Int32).toInt = 43 by decide) c_1
    refine lv_iload_n hx hb d_Model_isSign_6 rfl (lv_at hl 0 rfl) ?_
    refine lv_bipush (v := 45) hx hb d_Model_isSign_7 (by decide) ?_
    refine lv_icmp_eq (tgt := 78) hx hb d_Model_isSign_9 (by decide) (fun c_2 => ?_) (fun c_2 => ?_)
    · have hF := hF.trans (if_pos c_2)
      have tc_2 := ti_eq (Eq.refl kd.toInt) (show (45 : Int32).toInt = 45 by decide) c_2
      refine lv_iconst (v := 1) hx hb d_Model_isSign_78 (by decide) ?_
      refine lv_goto (tgt := 83) hx hb d_Model_isSign_79 (by decide) ?_
      have hP9 := hP.sub (ws' := []) [] rfl
      have hD9 := hD.sub (ws' := []) [] (by decide) rfl
      exact W.zret (v := (1 : Int32)) hx hb hr (rfl) (fun t ht hW => ⟨⟨(1 : Int32), (), rfl, by rw [hF], by rw [ht]; exact hP9, hD9⟩, hS.F ht⟩) hS.2.2 d_Model_isSign_83
    · have hF := hF.trans (if_neg c_2)
      have tc_2 := ti_ne (Eq.refl kd.toInt) (show (45 : Int32).toInt = 45 by decide) c_2
      refine lv_iload_n hx hb d_Model_isSign_12 rfl (lv_at hl 0 rfl) ?_
      refine lv_bipush (v := 42) hx hb d_Model_isSign_13 (by decide) ?_
      refine lv_icmp_eq (tgt := 78) hx hb d_Model_isSign_15 (by decide) (fun c_3 => ?_) (fun c_3 => ?_)
      · have hF := hF.trans (if_pos c_3)
        have tc_3 := ti_eq (Eq.refl kd.toInt) (show (42 : Int32).toInt = 42 by decide) c_3
        refine lv_iconst (v := 1) hx hb d_Model_isSign_78 (by decide) ?_
        refine lv_goto (tgt := 83) hx hb d_Model_isSign_79 (by decide) ?_
        have hP9 := hP.sub (ws' := []) [] rfl
        have hD9 := hD.sub (ws' := []) [] (by decide) rfl
        exact W.zret (v := (1 : Int32)) hx hb hr (rfl) (fun t ht hW => ⟨⟨(1 : Int32), (), rfl, by rw [hF], by rw [ht]; exact hP9, hD9⟩, hS.F ht⟩) hS.2.2 d_Model_isSign_83
      · have hF := hF.trans (if_neg c_3)
        have tc_3 := ti_ne (Eq.refl kd.toInt) (show (42 : Int32).toInt = 42 by decide) c_3
        refine lv_iload_n hx hb d_Model_isSign_18 rfl (lv_at hl 0 rfl) ?_
        refine lv_bipush (v := 47) hx hb d_Model_isSign_19 (by decide) ?_
        refine lv_icmp_eq (tgt := 78) hx hb d_Model_isSign_21 (by decide) (fun c_4 => ?_) (fun c_4 => ?_)
        · have hF := hF.trans (if_pos c_4)
          have tc_4 := ti_eq (Eq.refl kd.toInt) (show (47 : Int32).toInt = 47 by decide) c_4
          refine lv_iconst (v := 1) hx hb d_Model_isSign_78 (by decide) ?_
          refine lv_goto (tgt := 83) hx hb d_Model_isSign_79 (by decide) ?_
          have hP9 := hP.sub (ws' := []) [] rfl
          have hD9 := hD.sub (ws' := []) [] (by decide) rfl
          exact W.zret (v := (1 : Int32)) hx hb hr (rfl) (fun t ht hW => ⟨⟨(1 : Int32), (), rfl, by rw [hF], by rw [ht]; exact hP9, hD9⟩, hS.F ht⟩) hS.2.2 d_Model_isSign_83
        · have hF := hF.trans (if_neg c_4)
          have tc_4 := ti_ne (Eq.refl kd.toInt) (show (47 : Int32).toInt = 47 by decide) c_4
          refine lv_iload_n hx hb d_Model_isSign_24 rfl (lv_at hl 0 rfl) ?_
          refine lv_bipush (v := 40) hx hb d_Model_isSign_25 (by decide) ?_
          refine lv_icmp_eq (tgt := 78) hx hb d_Model_isSign_27 (by decide) (fun c_5 => ?_) (fun c_5 => ?_)
          · have hF := hF.trans (if_pos c_5)
            have tc_5 := ti_eq (Eq.refl kd.toInt) (show (40 : Int32).toInt = 40 by decide) c_5
            refine lv_iconst (v := 1) hx hb d_Model_isSign_78 (by decide) ?_
            refine lv_goto (tgt := 83) hx hb d_Model_isSign_79 (by decide) ?_
            have hP9 := hP.sub (ws' := []) [] rfl
            have hD9 := hD.sub (ws' := []) [] (by decide) rfl
            exact W.zret (v := (1 : Int32)) hx hb hr (rfl) (fun t ht hW => ⟨⟨(1 : Int32), (), rfl, by rw [hF], by rw [ht]; exact hP9, hD9⟩, hS.F ht⟩) hS.2.2 d_Model_isSign_83
          · have hF := hF.trans (if_neg c_5)
            have tc_5 := ti_ne (Eq.refl kd.toInt) (show (40 : Int32).toInt = 40 by decide) c_5
            refine lv_iload_n hx hb d_Model_isSign_30 rfl (lv_at hl 0 rfl) ?_
            refine lv_bipush (v := 41) hx hb d_Model_isSign_31 (by decide) ?_
            refine lv_icmp_eq (tgt := 78) hx hb d_Model_isSign_33 (by decide) (fun c_6 => ?_) (fun c_6 => ?_)
            · have hF := hF.trans (if_pos c_6)
              have tc_6 := ti_eq (Eq.refl kd.toInt) (show (41 : Int32).toInt = 41 by decide) c_6
              refine lv_iconst (v := 1) hx hb d_Model_isSign_78 (by decide) ?_
              refine lv_goto (tgt := 83) hx hb d_Model_isSign_79 (by decide) ?_
              have hP9 := hP.sub (ws' := []) [] rfl
              have hD9 := hD.sub (ws' := []) [] (by decide) rfl
              exact W.zret (v := (1 : Int32)) hx hb hr (rfl) (fun t ht hW => ⟨⟨(1 : Int32), (), rfl, by rw [hF], by rw [ht]; exact hP9, hD9⟩, hS.F ht⟩) hS.2.2 d_Model_isSign_83
            · have hF := hF.trans (if_neg c_6)
              have tc_6 := ti_ne (Eq.refl kd.toInt) (show (41 : Int32).toInt = 41 by decide) c_6
              refine lv_iload_n hx hb d_Model_isSign_36 rfl (lv_at hl 0 rfl) ?_
              refine lv_bipush (v := 60) hx hb d_Model_isSign_37 (by decide) ?_
              refine lv_icmp_eq (tgt := 78) hx hb d_Model_isSign_39 (by decide) (fun c_7 => ?_) (fun c_7 => ?_)
              · have hF := hF.trans (if_pos c_7)
                have tc_7 := ti_eq (Eq.refl kd.toInt) (show (60 : Int32).toInt = 60 by decide) c_7
                refine lv_iconst (v := 1) hx hb d_Model_isSign_78 (by decide) ?_
                refine lv_goto (tgt := 83) hx hb d_Model_isSign_79 (by decide) ?_
                have hP9 := hP.sub (ws' := []) [] rfl
                have hD9 := hD.sub (ws' := []) [] (by decide) rfl
                exact W.zret (v := (1 : Int32)) hx hb hr (rfl) (fun t ht hW => ⟨⟨(1 : Int32), (), rfl, by rw [hF], by rw [ht]; exact hP9, hD9⟩, hS.F ht⟩) hS.2.2 d_Model_isSign_83
              · have hF := hF.trans (if_neg c_7)
                have tc_7 := ti_ne (Eq.refl kd.toInt) (show (60 : Int32).toInt = 60 by decide) c_7
                refine lv_iload_n hx hb d_Model_isSign_42 rfl (lv_at hl 0 rfl) ?_
                refine lv_bipush (v := 61) hx hb d_Model_isSign_43 (by decide) ?_
                refine lv_icmp_eq (tgt := 78) hx hb d_Model_isSign_45 (by decide) (fun c_8 => ?_) (fun c_8 => ?_)
                · have hF := hF.trans (if_pos c_8)
                  have tc_8 := ti_eq (Eq.refl kd.toInt) (show (61 : Int32).toInt = 61 by decide) c_8
                  refine lv_iconst (v := 1) hx hb d_Model_isSign_78 (by decide) ?_
                  refine lv_goto (tgt := 83) hx hb d_Model_isSign_79 (by decide) ?_
                  have hP9 := hP.sub (ws' := []) [] rfl
                  have hD9 := hD.sub (ws' := []) [] (by decide) rfl
                  exact W.zret (v := (1 : Int32)) hx hb hr (rfl) (fun t ht hW => ⟨⟨(1 : Int32), (), rfl, by rw [hF], by rw [ht]; exact hP9, hD9⟩, hS.F ht⟩) hS.2.2 d_Model_isSign_83
                · have hF := hF.trans (if_neg c_8)
                  have tc_8 := ti_ne (Eq.refl kd.toInt) (show (61 : Int32).toInt = 61 by decide) c_8
                  refine lv_iload_n hx hb d_Model_isSign_48 rfl (lv_at hl 0 rfl) ?_
                  refine lv_bipush (v := 62) hx hb d_Model_isSign_49 (by decide) ?_
                  refine lv_icmp_eq (tgt := 78) hx hb d_Model_isSign_51 (by decide) (fun c_9 => ?_) (fun c_9 => ?_)
                  · have hF := hF.trans (if_pos c_9)
                    have tc_9 := ti_eq (Eq.refl kd.toInt) (show (62 : Int32).toInt = 62 by decide) c_9
                    refine lv_iconst (v := 1) hx hb d_Model_isSign_78 (by decide) ?_
                    refine lv_goto (tgt := 83) hx hb d_Model_isSign_79 (by decide) ?_
                    have hP9 := hP.sub (ws' := []) [] rfl
                    have hD9 := hD.sub (ws' := []) [] (by decide) rfl
                    exact W.zret (v := (1 : Int32)) hx hb hr (rfl) (fun t ht hW => ⟨⟨(1 : Int32), (), rfl, by rw [hF], by rw [ht]; exact hP9, hD9⟩, hS.F ht⟩) hS.2.2 d_Model_isSign_83
                  · have hF := hF.trans (if_neg c_9)
                    have tc_9 := ti_ne (Eq.refl kd.toInt) (show (62 : Int32).toInt = 62 by decide) c_9
                    refine lv_iload_n hx hb d_Model_isSign_54 rfl (lv_at hl 0 rfl) ?_
                    refine lv_bipush (v := 58) hx hb d_Model_isSign_55 (by decide) ?_
                    refine lv_icmp_eq (tgt := 78) hx hb d_Model_isSign_57 (by decide) (fun c_10 => ?_) (fun c_10 => ?_)
                    · have hF := hF.trans (if_pos c_10)
                      have tc_10 := ti_eq (Eq.refl kd.toInt) (show (58 : Int32).toInt = 58 by decide) c_10
                      refine lv_iconst (v := 1) hx hb d_Model_isSign_78 (by decide) ?_
                      refine lv_goto (tgt := 83) hx hb d_Model_isSign_79 (by decide) ?_
                      have hP9 := hP.sub (ws' := []) [] rfl
                      have hD9 := hD.sub (ws' := []) [] (by decide) rfl
                      exact W.zret (v := (1 : Int32)) hx hb hr (rfl) (fun t ht hW => ⟨⟨(1 : Int32), (), rfl, by rw [hF], by rw [ht]; exact hP9, hD9⟩, hS.F ht⟩) hS.2.2 d_Model_isSign_83
                    · have hF := hF.trans (if_neg c_10)
                      have tc_10 := ti_ne (Eq.refl kd.toInt) (show (58 : Int32).toInt = 58 by decide) c_10
                      refine lv_iload_n hx hb d_Model_isSign_60 rfl (lv_at hl 0 rfl) ?_
                      refine lv_bipush (v := 59) hx hb d_Model_isSign_61 (by decide) ?_
                      refine lv_icmp_eq (tgt := 78) hx hb d_Model_isSign_63 (by decide) (fun c_11 => ?_) (fun c_11 => ?_)
                      · have hF := hF.trans (if_pos c_11)
                        have tc_11 := ti_eq (Eq.refl kd.toInt) (show (59 : Int32).toInt = 59 by decide) c_11
                        refine lv_iconst (v := 1) hx hb d_Model_isSign_78 (by decide) ?_
                        refine lv_goto (tgt := 83) hx hb d_Model_isSign_79 (by decide) ?_
                        have hP9 := hP.sub (ws' := []) [] rfl
                        have hD9 := hD.sub (ws' := []) [] (by decide) rfl
                        exact W.zret (v := (1 : Int32)) hx hb hr (rfl) (fun t ht hW => ⟨⟨(1 : Int32), (), rfl, by rw [hF], by rw [ht]; exact hP9, hD9⟩, hS.F ht⟩) hS.2.2 d_Model_isSign_83
                      · have hF := hF.trans (if_neg c_11)
                        have tc_11 := ti_ne (Eq.refl kd.toInt) (show (59 : Int32).toInt = 59 by decide) c_11
                        refine lv_iload_n hx hb d_Model_isSign_66 rfl (lv_at hl 0 rfl) ?_
                        refine lv_bipush (v := 33) hx hb d_Model_isSign_67 (by decide) ?_
                        refine lv_icmp_eq (tgt := 78) hx hb d_Model_isSign_69 (by decide) (fun c_12 => ?_) (fun c_12 => ?_)
                        · have hF := hF.trans (if_pos c_12)
                          have tc_12 := ti_eq (Eq.refl kd.toInt) (show (33 : Int32).toInt = 33 by decide) c_12
                          refine lv_iconst (v := 1) hx hb d_Model_isSign_78 (by decide) ?_
                          refine lv_goto (tgt := 83) hx hb d_Model_isSign_79 (by decide) ?_
                          have hP9 := hP.sub (ws' := []) [] rfl
                          have hD9 := hD.sub (ws' := []) [] (by decide) rfl
                          exact W.zret (v := (1 : Int32)) hx hb hr (rfl) (fun t ht hW => ⟨⟨(1 : Int32), (), rfl, by rw [hF], by rw [ht]; exact hP9, hD9⟩, hS.F ht⟩) hS.2.2 d_Model_isSign_83
                        · have hF := hF.trans (if_neg c_12)
                          have tc_12 := ti_ne (Eq.refl kd.toInt) (show (33 : Int32).toInt = 33 by decide) c_12
                          refine lv_iload_n hx hb d_Model_isSign_72 rfl (lv_at hl 0 rfl) ?_
                          refine lv_bipush (v := 64) hx hb d_Model_isSign_73 (by decide) ?_
                          refine lv_icmp_ne (tgt := 82) hx hb d_Model_isSign_75 (by decide) (fun c_13 => ?_) (fun c_13 => ?_)
                          · have hF := hF.trans (if_neg c_13)
                            have tc_13 := ti_ne (Eq.refl kd.toInt) (show (64 : Int32).toInt = 64 by decide) c_13
                            refine lv_iconst (v := 0) hx hb d_Model_isSign_82 (by decide) ?_
                            have hP9 := hP.sub (ws' := []) [] rfl
                            have hD9 := hD.sub (ws' := []) [] (by decide) rfl
                            exact W.zret (v := (0 : Int32)) hx hb hr (rfl) (fun t ht hW => ⟨⟨(0 : Int32), (), rfl, by rw [hF], by rw [ht]; exact hP9, hD9⟩, hS.F ht⟩) hS.2.2 d_Model_isSign_83
                          · have hF := hF.trans (if_pos c_13)
                            have tc_13 := ti_eq (Eq.refl kd.toInt) (show (64 : Int32).toInt = 64 by decide) c_13
                            refine lv_iconst (v := 1) hx hb d_Model_isSign_78 (by decide) ?_
                            refine lv_goto (tgt := 83) hx hb d_Model_isSign_79 (by decide) ?_
                            have hP9 := hP.sub (ws' := []) [] rfl
                            have hD9 := hD.sub (ws' := []) [] (by decide) rfl
                            exact W.zret (v := (1 : Int32)) hx hb hr (rfl) (fun t ht hW => ⟨⟨(1 : Int32), (), rfl, by rw [hF], by rw [ht]; exact hP9, hD9⟩, hS.F ht⟩) hS.2.2 d_Model_isSign_83
def f_Model_compares (kd : Int32) : Int32 := (if kd = 60 then 1 else (if kd = 61 then 1 else (if kd = 62 then 1 else (if kd = 316 then 1 else (if kd = 318 then 1 else 0)))))
abbrev q_Model_compares (dC : Nat → ClassId) (dI : Nat → Nat → Nat) (cB cI cJ : ClassId) (kd : Int32) (A : Nat → Prop) : Array Value → State → Outcome → State → Prop := va_Qi (fun (r : Int32) (u : Unit) => r = f_Model_compares kd) (fun u t => va_P (dC, dI) vwCl [] t.heap ∧ va_D A []) A
set_option maxHeartbeats 4000000 in
set_option maxRecDepth 100000 in
theorem c_Model_compares (l : Launch) (dC : Nat → ClassId) (dI : Nat → Nat → Nat) (cB cI cJ : ClassId) (sz : Nat) (kd : Int32) : Met l y_Model_compares (cw_Model_compares :: bgw) { frames := 0, cells := 0, slots := 0, locals := 0 } (va_Pc [.int kd] (kb_B dC dI cB cI cJ [] sz)) (q_Model_compares dC dI cB cI cJ kd (va_A [] sz)) 0 0 (va_A [] sz) := by
  refine Met.ofW (cc := prog_10_method_11_code) (maxL := 1) (ret := (some .boolean)) (by decide) rfl ?_
  intro p e s m args below meth c s₁ B hml hv
  obtain ⟨rfl, hsz, hP, hKx, hD0⟩ := hv
  have hx := B.exec
  have hb := B.bytes
  have hr := B.returns
  have hts := atoms_spec (ws := (cw_Model_compares :: bgw)) B.pre
  have hown : s.vm.findClass "PermitRulesModel" = some m.cls := findClass_of_methodNamed B.named
  have hlocks := B.notSynchronized
  have htb := fun (w : Cond) (h : w ∈ bgw) => hts w (List.mem_cons_of_mem _ h)
  have hK := hKx.1
  subst hsz
  have hD := hD0.self (sz := s.heap.size)
  generalize hAe : va_A [] s.heap.size = A at hD ⊢
  have hA : ∀ q : Nat, s.heap.size ≤ q → A q := fun q h => by rw [← hAe]; exact Or.inr h
  have hS : va_S A s.heap s.heap [] := va_S.rf
  have hl := lv_entry ([.int kd]) (n := 1) (Nat.le_of_ble_eq_true rfl)
  rw [lg_entry_eq]
  generalize (lg_sl ([.int kd]) ++ List.replicate (1 - (lg_sl ([.int kd])).length) Slot.unset).toArray = ls at hl ⊢
  have hl : lv_has ls 1 [(0, .int kd)] := hl
  have hP : va_P (dC, dI) vwCl [] s.heap := hP
  have hF : f_Model_compares kd = (if kd = 60 then 1 else (if kd = 61 then 1 else (if kd = 62 then 1 else (if kd = 316 then 1 else (if kd = 318 then 1 else 0))))) := rfl
  refine lv_iload_n hx hb d_Model_compares_0 rfl (lv_at hl 0 rfl) ?_
  refine lv_bipush (v := 60) hx hb d_Model_compares_1 (by decide) ?_
  refine lv_icmp_eq (tgt := 32) hx hb d_Model_compares_3 (by decide) (fun c_1 => ?_) (fun c_1 => ?_)
  · have hF := hF.trans (if_pos c_1)
    have tc_1 := ti_eq (Eq.refl kd.toInt) (show (60 : Int32).toInt = 60 by decide) c_1
    refine lv_iconst (v := 1) hx hb d_Model_compares_32 (by decide) ?_
    refine lv_goto (tgt := 37) hx hb d_Model_compares_33 (by decide) ?_
    have hP9 := hP.sub (ws' := []) [] rfl
    have hD9 := hD.sub (ws' := []) [] (by decide) rfl
    exact W.zret (v := (1 : Int32)) hx hb hr (rfl) (fun t ht hW => ⟨⟨(1 : Int32), (), rfl, by rw [hF], by rw [ht]; exact hP9, hD9⟩, hS.F ht⟩) hS.2.2 d_Model_compares_37
  · have hF := hF.trans (if_neg c_1)
    have tc_1 := ti_ne (Eq.refl kd.toInt) (show (60 : Int32).toInt = 60 by decide) c_1
    refine lv_iload_n hx hb d_Model_compares_6 rfl (lv_at hl 0 rfl) ?_
    refine lv_bipush (v := 61) hx hb d_Model_compares_7 (by decide) ?_
    refine lv_icmp_eq (tgt := 32) hx hb d_Model_compares_9 (by decide) (fun c_2 => ?_) (fun c_2 => ?_)
    · have hF := hF.trans (if_pos c_2)
      have tc_2 := ti_eq (Eq.refl kd.toInt) (show (61 : Int32).toInt = 61 by decide) c_2
      refine lv_iconst (v := 1) hx hb d_Model_compares_32 (by decide) ?_
      refine lv_goto (tgt := 37) hx hb d_Model_compares_33 (by decide) ?_
      have hP9 := hP.sub (ws' := []) [] rfl
      have hD9 := hD.sub (ws' := []) [] (by decide) rfl
      exact W.zret (v := (1 : Int32)) hx hb hr (rfl) (fun t ht hW => ⟨⟨(1 : Int32), (), rfl, by rw [hF], by rw [ht]; exact hP9, hD9⟩, hS.F ht⟩) hS.2.2 d_Model_compares_37
    · have hF := hF.trans (if_neg c_2)
      have tc_2 := ti_ne (Eq.refl kd.toInt) (show (61 : Int32).toInt = 61 by decide) c_2
      refine lv_iload_n hx hb d_Model_compares_12 rfl (lv_at hl 0 rfl) ?_
      refine lv_bipush (v := 62) hx hb d_Model_compares_13 (by decide) ?_
      refine lv_icmp_eq (tgt := 32) hx hb d_Model_compares_15 (by decide) (fun c_3 => ?_) (fun c_3 => ?_)
      · have hF := hF.trans (if_pos c_3)
        have tc_3 := ti_eq (Eq.refl kd.toInt) (show (62 : Int32).toInt = 62 by decide) c_3
        refine lv_iconst (v := 1) hx hb d_Model_compares_32 (by decide) ?_
        refine lv_goto (tgt := 37) hx hb d_Model_compares_33 (by decide) ?_
        have hP9 := hP.sub (ws' := []) [] rfl
        have hD9 := hD.sub (ws' := []) [] (by decide) rfl
        exact W.zret (v := (1 : Int32)) hx hb hr (rfl) (fun t ht hW => ⟨⟨(1 : Int32), (), rfl, by rw [hF], by rw [ht]; exact hP9, hD9⟩, hS.F ht⟩) hS.2.2 d_Model_compares_37
      · have hF := hF.trans (if_neg c_3)
        have tc_3 := ti_ne (Eq.refl kd.toInt) (show (62 : Int32).toInt = 62 by decide) c_3
        refine lv_iload_n hx hb d_Model_compares_18 rfl (lv_at hl 0 rfl) ?_
        refine lv_sipush (v := 316) hx hb d_Model_compares_19 (by decide) ?_
        refine lv_icmp_eq (tgt := 32) hx hb d_Model_compares_22 (by decide) (fun c_4 => ?_) (fun c_4 => ?_)
        · have hF := hF.trans (if_pos c_4)
          have tc_4 := ti_eq (Eq.refl kd.toInt) (show (316 : Int32).toInt = 316 by decide) c_4
          refine lv_iconst (v := 1) hx hb d_Model_compares_32 (by decide) ?_
          refine lv_goto (tgt := 37) hx hb d_Model_compares_33 (by decide) ?_
          have hP9 := hP.sub (ws' := []) [] rfl
          have hD9 := hD.sub (ws' := []) [] (by decide) rfl
          exact W.zret (v := (1 : Int32)) hx hb hr (rfl) (fun t ht hW => ⟨⟨(1 : Int32), (), rfl, by rw [hF], by rw [ht]; exact hP9, hD9⟩, hS.F ht⟩) hS.2.2 d_Model_compares_37
        · have hF := hF.trans (if_neg c_4)
          have tc_4 := ti_ne (Eq.refl kd.toInt) (show (316 : Int32).toInt = 316 by decide) c_4
          refine lv_iload_n hx hb d_Model_compares_25 rfl (lv_at hl 0 rfl) ?_
          refine lv_sipush (v := 318) hx hb d_Model_compares_26 (by decide) ?_
          refine lv_icmp_ne (tgt := 36) hx hb d_Model_compares_29 (by decide) (fun c_5 => ?_) (fun c_5 => ?_)
          · have hF := hF.trans (if_neg c_5)
            have tc_5 := ti_ne (Eq.refl kd.toInt) (show (318 : Int32).toInt = 318 by decide) c_5
            refine lv_iconst (v := 0) hx hb d_Model_compares_36 (by decide) ?_
            have hP9 := hP.sub (ws' := []) [] rfl
            have hD9 := hD.sub (ws' := []) [] (by decide) rfl
            exact W.zret (v := (0 : Int32)) hx hb hr (rfl) (fun t ht hW => ⟨⟨(0 : Int32), (), rfl, by rw [hF], by rw [ht]; exact hP9, hD9⟩, hS.F ht⟩) hS.2.2 d_Model_compares_37
          · have hF := hF.trans (if_pos c_5)
            have tc_5 := ti_eq (Eq.refl kd.toInt) (show (318 : Int32).toInt = 318 by decide) c_5
            refine lv_iconst (v := 1) hx hb d_Model_compares_32 (by decide) ?_
            refine lv_goto (tgt := 37) hx hb d_Model_compares_33 (by decide) ?_
            have hP9 := hP.sub (ws' := []) [] rfl
            have hD9 := hD.sub (ws' := []) [] (by decide) rfl
            exact W.zret (v := (1 : Int32)) hx hb hr (rfl) (fun t ht hW => ⟨⟨(1 : Int32), (), rfl, by rw [hF], by rw [ht]; exact hP9, hD9⟩, hS.F ht⟩) hS.2.2 d_Model_compares_37
def f_Model_rank (kd : Int32) : Int32 := (if kd = 42 then 3 else (if kd = 47 then 3 else (if kd = 78 then 2 else (if kd = 43 then 1 else (if kd = 45 then 1 else 0)))))
abbrev q_Model_rank (dC : Nat → ClassId) (dI : Nat → Nat → Nat) (cB cI cJ : ClassId) (kd : Int32) (A : Nat → Prop) : Array Value → State → Outcome → State → Prop := va_Qi (fun (r : Int32) (u : Unit) => r = f_Model_rank kd) (fun u t => va_P (dC, dI) vwCl [] t.heap ∧ va_D A []) A
set_option maxHeartbeats 4000000 in
set_option maxRecDepth 100000 in
theorem c_Model_rank (l : Launch) (dC : Nat → ClassId) (dI : Nat → Nat → Nat) (cB cI cJ : ClassId) (sz : Nat) (kd : Int32) : Met l y_Model_rank (cw_Model_rank :: bgw) { frames := 0, cells := 0, slots := 0, locals := 0 } (va_Pc [.int kd] (kb_B dC dI cB cI cJ [] sz)) (q_Model_rank dC dI cB cI cJ kd (va_A [] sz)) 0 0 (va_A [] sz) := by
  refine Met.ofW (cc := prog_10_method_13_code) (maxL := 1) (ret := (some .int)) (by decide) rfl ?_
  intro p e s m args below meth c s₁ B hml hv
  obtain ⟨rfl, hsz, hP, hKx, hD0⟩ := hv
  have hx := B.exec
  have hb := B.bytes
  have hr := B.returns
  have hts := atoms_spec (ws := (cw_Model_rank :: bgw)) B.pre
  have hown : s.vm.findClass "PermitRulesModel" = some m.cls := findClass_of_methodNamed B.named
  have hlocks := B.notSynchronized
  have htb := fun (w : Cond) (h : w ∈ bgw) => hts w (List.mem_cons_of_mem _ h)
  have hK := hKx.1
  subst hsz
  have hD := hD0.self (sz := s.heap.size)
  generalize hAe : va_A [] s.heap.size = A at hD ⊢
  have hA : ∀ q : Nat, s.heap.size ≤ q → A q := fun q h => by rw [← hAe]; exact Or.inr h
  have hS : va_S A s.heap s.heap [] := va_S.rf
  have hl := lv_entry ([.int kd]) (n := 1) (Nat.le_of_ble_eq_true rfl)
  rw [lg_entry_eq]
  generalize (lg_sl ([.int kd]) ++ List.replicate (1 - (lg_sl ([.int kd])).length) Slot.unset).toArray = ls at hl ⊢
  have hl : lv_has ls 1 [(0, .int kd)] := hl
  have hP : va_P (dC, dI) vwCl [] s.heap := hP
  have hF : f_Model_rank kd = (if kd = 42 then 3 else (if kd = 47 then 3 else (if kd = 78 then 2 else (if kd = 43 then 1 else (if kd = 45 then 1 else 0))))) := rfl
  refine lv_iload_n hx hb d_Model_rank_0 rfl (lv_at hl 0 rfl) ?_
  refine lv_bipush (v := 42) hx hb d_Model_rank_1 (by decide) ?_
  refine lv_icmp_eq (tgt := 12) hx hb d_Model_rank_3 (by decide) (fun c_1 => ?_) (fun c_1 => ?_)
  · have hF := hF.trans (if_pos c_1)
    have tc_1 := ti_eq (Eq.refl kd.toInt) (show (42 : Int32).toInt = 42 by decide) c_1
    refine lv_iconst (v := 3) hx hb d_Model_rank_12 (by decide) ?_
    refine lv_goto (tgt := 43) hx hb d_Model_rank_13 (by decide) ?_
    have hP9 := hP.sub (ws' := []) [] rfl
    have hD9 := hD.sub (ws' := []) [] (by decide) rfl
    exact W.iret (v := (3 : Int32)) hx hb hr (fun t ht hW => ⟨⟨(3 : Int32), (), rfl, by rw [hF], by rw [ht]; exact hP9, hD9⟩, hS.F ht⟩) hS.2.2 d_Model_rank_43
  · have hF := hF.trans (if_neg c_1)
    have tc_1 := ti_ne (Eq.refl kd.toInt) (show (42 : Int32).toInt = 42 by decide) c_1
    refine lv_iload_n hx hb d_Model_rank_6 rfl (lv_at hl 0 rfl) ?_
    refine lv_bipush (v := 47) hx hb d_Model_rank_7 (by decide) ?_
    refine lv_icmp_ne (tgt := 16) hx hb d_Model_rank_9 (by decide) (fun c_2 => ?_) (fun c_2 => ?_)
    · have hF := hF.trans (if_neg c_2)
      have tc_2 := ti_ne (Eq.refl kd.toInt) (show (47 : Int32).toInt = 47 by decide) c_2
      refine lv_iload_n hx hb d_Model_rank_16 rfl (lv_at hl 0 rfl) ?_
      refine lv_bipush (v := 78) hx hb d_Model_rank_17 (by decide) ?_
      refine lv_icmp_ne (tgt := 26) hx hb d_Model_rank_19 (by decide) (fun c_3 => ?_) (fun c_3 => ?_)
      · have hF := hF.trans (if_neg c_3)
        have tc_3 := ti_ne (Eq.refl kd.toInt) (show (78 : Int32).toInt = 78 by decide) c_3
        refine lv_iload_n hx hb d_Model_rank_26 rfl (lv_at hl 0 rfl) ?_
        refine lv_bipush (v := 43) hx hb d_Model_rank_27 (by decide) ?_
        refine lv_icmp_eq (tgt := 38) hx hb d_Model_rank_29 (by decide) (fun c_4 => ?_) (fun c_4 => ?_)
        · have hF := hF.trans (if_pos c_4)
          have tc_4 := ti_eq (Eq.refl kd.toInt) (show (43 : Int32).toInt = 43 by decide) c_4
          refine lv_iconst (v := 1) hx hb d_Model_rank_38 (by decide) ?_
          refine lv_goto (tgt := 43) hx hb d_Model_rank_39 (by decide) ?_
          have hP9 := hP.sub (ws' := []) [] rfl
          have hD9 := hD.sub (ws' := []) [] (by decide) rfl
          exact W.iret (v := (1 : Int32)) hx hb hr (fun t ht hW => ⟨⟨(1 : Int32), (), rfl, by rw [hF], by rw [ht]; exact hP9, hD9⟩, hS.F ht⟩) hS.2.2 d_Model_rank_43
        · have hF := hF.trans (if_neg c_4)
          have tc_4 := ti_ne (Eq.refl kd.toInt) (show (43 : Int32).toInt = 43 by decide) c_4
          refine lv_iload_n hx hb d_Model_rank_32 rfl (lv_at hl 0 rfl) ?_
          refine lv_bipush (v := 45) hx hb d_Model_rank_33 (by decide) ?_
          refine lv_icmp_ne (tgt := 42) hx hb d_Model_rank_35 (by decide) (fun c_5 => ?_) (fun c_5 => ?_)
          · have hF := hF.trans (if_neg c_5)
            have tc_5 := ti_ne (Eq.refl kd.toInt) (show (45 : Int32).toInt = 45 by decide) c_5
            refine lv_iconst (v := 0) hx hb d_Model_rank_42 (by decide) ?_
            have hP9 := hP.sub (ws' := []) [] rfl
            have hD9 := hD.sub (ws' := []) [] (by decide) rfl
            exact W.iret (v := (0 : Int32)) hx hb hr (fun t ht hW => ⟨⟨(0 : Int32), (), rfl, by rw [hF], by rw [ht]; exact hP9, hD9⟩, hS.F ht⟩) hS.2.2 d_Model_rank_43
          · have hF := hF.trans (if_pos c_5)
            have tc_5 := ti_eq (Eq.refl kd.toInt) (show (45 : Int32).toInt = 45 by decide) c_5
            refine lv_iconst (v := 1) hx hb d_Model_rank_38 (by decide) ?_
            refine lv_goto (tgt := 43) hx hb d_Model_rank_39 (by decide) ?_
            have hP9 := hP.sub (ws' := []) [] rfl
            have hD9 := hD.sub (ws' := []) [] (by decide) rfl
            exact W.iret (v := (1 : Int32)) hx hb hr (fun t ht hW => ⟨⟨(1 : Int32), (), rfl, by rw [hF], by rw [ht]; exact hP9, hD9⟩, hS.F ht⟩) hS.2.2 d_Model_rank_43
      · have hF := hF.trans (if_pos c_3)
        have tc_3 := ti_eq (Eq.refl kd.toInt) (show (78 : Int32).toInt = 78 by decide) c_3
        refine lv_iconst (v := 2) hx hb d_Model_rank_22 (by decide) ?_
        refine lv_goto (tgt := 43) hx hb d_Model_rank_23 (by decide) ?_
        have hP9 := hP.sub (ws' := []) [] rfl
        have hD9 := hD.sub (ws' := []) [] (by decide) rfl
        exact W.iret (v := (2 : Int32)) hx hb hr (fun t ht hW => ⟨⟨(2 : Int32), (), rfl, by rw [hF], by rw [ht]; exact hP9, hD9⟩, hS.F ht⟩) hS.2.2 d_Model_rank_43
    · have hF := hF.trans (if_pos c_2)
      have tc_2 := ti_eq (Eq.refl kd.toInt) (show (47 : Int32).toInt = 47 by decide) c_2
      refine lv_iconst (v := 3) hx hb d_Model_rank_12 (by decide) ?_
      refine lv_goto (tgt := 43) hx hb d_Model_rank_13 (by decide) ?_
      have hP9 := hP.sub (ws' := []) [] rfl
      have hD9 := hD.sub (ws' := []) [] (by decide) rfl
      exact W.iret (v := (3 : Int32)) hx hb hr (fun t ht hW => ⟨⟨(3 : Int32), (), rfl, by rw [hF], by rw [ht]; exact hP9, hD9⟩, hS.F ht⟩) hS.2.2 d_Model_rank_43
def f_Model_step (kd : Int32) (wo : Int64) (ds : Int32) (sk : (Nat → Int32)) (sv : (Nat → Int64)) : Int32 × (Nat → Int32) × (Nat → Int64) := (ds + 1, upd sk ds.toNatClampNeg kd, vp_updL sv ds.toNatClampNeg wo)
abbrev q_Model_step (dC : Nat → ClassId) (dI : Nat → Nat → Nat) (cB cI cJ : ClassId) (oM mT mN mD mF mS mL mR mE mK mV mO mA mB mU mW mX mY : Nat) (kd : Int32) (wo : Int64) (th : Int32) (ml : Int32) (ma : Int32) (mk : Int32) (mp : Int32) (mv : Int64) (mw : Int32) (dr : Int32) (dc : Int32) (ds : Int32) (ru : Int32) (cl : Int32) (os : Int32) (fc : Int32) (pi : Int32) (wh : Int32) (ms : Int64) (aq : Int32) (da : Int32) (lu : Int64) (ld : Int64) (qu : Int64) (qd : Int64) (sk : (Nat → Int32)) (sv : (Nat → Int64)) (A : Nat → Prop) : Array Value → State → Outcome → State → Prop := va_Qv (fun u : Int32 × (Nat → Int32) × (Nat → Int64) => u = f_Model_step kd wo ds sk sv) (fun u t => va_P (dC, dI) vwCl [(oM, .inr (8, [.int th, .ref mT, .int ml, .int ma, .int mk, .int mp, .long mv, .int mw, .ref mN, .ref mD, .ref mF, .ref mS, .ref mL, .ref mR, .ref mE, .ref mK, .ref mV, .int dr, .int dc, .int u.1, .int ru, .int cl, .ref mO, .int os, .int fc, .ref mA, .ref mB, .ref mU, .ref mW, .int pi, .int wh, .long ms, .int aq, .int da, .ref mX, .ref mY, .long lu, .long ld, .long qu, .long qd])), (mK, .inl (cI, 480, .inl u.2.1)), (mV, .inl (cJ, 480, .inr (.inl u.2.2)))] t.heap ∧ va_D A [(oM, .inr (8, [.int th, .ref mT, .int ml, .int ma, .int mk, .int mp, .long mv, .int mw, .ref mN, .ref mD, .ref mF, .ref mS, .ref mL, .ref mR, .ref mE, .ref mK, .ref mV, .int dr, .int dc, .int u.1, .int ru, .int cl, .ref mO, .int os, .int fc, .ref mA, .ref mB, .ref mU, .ref mW, .int pi, .int wh, .long ms, .int aq, .int da, .ref mX, .ref mY, .long lu, .long ld, .long qu, .long qd])), (mK, .inl (cI, 480, .inl u.2.1)), (mV, .inl (cJ, 480, .inr (.inl u.2.2)))]) A
set_option maxHeartbeats 4000000 in
set_option maxRecDepth 100000 in
theorem c_Model_step (l : Launch) (dC : Nat → ClassId) (dI : Nat → Nat → Nat) (cB cI cJ : ClassId) (oM mT mN mD mF mS mL mR mE mK mV mO mA mB mU mW mX mY : Nat) (sz : Nat) (kd : Int32) (wo : Int64) (th : Int32) (ml : Int32) (ma : Int32) (mk : Int32) (mp : Int32) (mv : Int64) (mw : Int32) (dr : Int32) (dc : Int32) (ds : Int32) (ru : Int32) (cl : Int32) (os : Int32) (fc : Int32) (pi : Int32) (wh : Int32) (ms : Int64) (aq : Int32) (da : Int32) (lu : Int64) (ld : Int64) (qu : Int64) (qd : Int64) (sk : (Nat → Int32)) (sv : (Nat → Int64)) (h0 : 0 ≤ ds.toInt) (h1 : ds.toInt < 480) : Met l y_Model_step (cw_Model_step :: bgw) { frames := 0, cells := 0, slots := 0, locals := 0 } (va_Pc [.ref oM, .int kd, .long wo] (kb_B dC dI cB cI cJ [(oM, .inr (8, [.int th, .ref mT, .int ml, .int ma, .int mk, .int mp, .long mv, .int mw, .ref mN, .ref mD, .ref mF, .ref mS, .ref mL, .ref mR, .ref mE, .ref mK, .ref mV, .int dr, .int dc, .int ds, .int ru, .int cl, .ref mO, .int os, .int fc, .ref mA, .ref mB, .ref mU, .ref mW, .int pi, .int wh, .long ms, .int aq, .int da, .ref mX, .ref mY, .long lu, .long ld, .long qu, .long qd])), (mK, .inl (cI, 480, .inl sk)), (mV, .inl (cJ, 480, .inr (.inl sv)))] sz)) (q_Model_step dC dI cB cI cJ oM mT mN mD mF mS mL mR mE mK mV mO mA mB mU mW mX mY kd wo th ml ma mk mp mv mw dr dc ds ru cl os fc pi wh ms aq da lu ld qu qd sk sv (va_A [(oM, .inr (8, [.int th, .ref mT, .int ml, .int ma, .int mk, .int mp, .long mv, .int mw, .ref mN, .ref mD, .ref mF, .ref mS, .ref mL, .ref mR, .ref mE, .ref mK, .ref mV, .int dr, .int dc, .int ds, .int ru, .int cl, .ref mO, .int os, .int fc, .ref mA, .ref mB, .ref mU, .ref mW, .int pi, .int wh, .long ms, .int aq, .int da, .ref mX, .ref mY, .long lu, .long ld, .long qu, .long qd])), (mK, .inl (cI, 480, .inl sk)), (mV, .inl (cJ, 480, .inr (.inl sv)))] sz)) 0 0 (va_A [(oM, .inr (8, [.int th, .ref mT, .int ml, .int ma, .int mk, .int mp, .long mv, .int mw, .ref mN, .ref mD, .ref mF, .ref mS, .ref mL, .ref mR, .ref mE, .ref mK, .ref mV, .int dr, .int dc, .int ds, .int ru, .int cl, .ref mO, .int os, .int fc, .ref mA, .ref mB, .ref mU, .ref mW, .int pi, .int wh, .long ms, .int aq, .int da, .ref mX, .ref mY, .long lu, .long ld, .long qu, .long qd])), (mK, .inl (cI, 480, .inl sk)), (mV, .inl (cJ, 480, .inr (.inl sv)))] sz) := by
  refine Met.ofW (cc := prog_10_method_12_code) (maxL := 4) (ret := none) (by decide) rfl ?_
  intro p e s m args below meth c s₁ B hml hv
  obtain ⟨rfl, hsz, hP, hKx, hD0⟩ := hv
  have hx := B.exec
  have hb := B.bytes
  have hr := B.returns
  have hts := atoms_spec (ws := (cw_Model_step :: bgw)) B.pre
  have hown : s.vm.findClass "PermitRulesModel" = some m.cls := findClass_of_methodNamed B.named
  have hlocks := B.notSynchronized
  have htb := fun (w : Cond) (h : w ∈ bgw) => hts w (List.mem_cons_of_mem _ h)
  have hK := hKx.1
  subst hsz
  have hD := hD0.self (sz := s.heap.size)
  generalize hAe : va_A [(oM, .inr (8, [.int th, .ref mT, .int ml, .int ma, .int mk, .int mp, .long mv, .int mw, .ref mN, .ref mD, .ref mF, .ref mS, .ref mL, .ref mR, .ref mE, .ref mK, .ref mV, .int dr, .int dc, .int ds, .int ru, .int cl, .ref mO, .int os, .int fc, .ref mA, .ref mB, .ref mU, .ref mW, .int pi, .int wh, .long ms, .int aq, .int da, .ref mX, .ref mY, .long lu, .long ld, .long qu, .long qd])), (mK, .inl (cI, 480, .inl sk)), (mV, .inl (cJ, 480, .inr (.inl sv)))] s.heap.size = A at hD ⊢
  have hA : ∀ q : Nat, s.heap.size ≤ q → A q := fun q h => by rw [← hAe]; exact Or.inr h
  have hS : va_S A s.heap s.heap [] := va_S.rf
  have hl := lv_entry ([.ref oM, .int kd, .long wo]) (n := 4) (Nat.le_of_ble_eq_true rfl)
  rw [lg_entry_eq]
  generalize (lg_sl ([.ref oM, .int kd, .long wo]) ++ List.replicate (4 - (lg_sl ([.ref oM, .int kd, .long wo])).length) Slot.unset).toArray = ls at hl ⊢
  have hl : lv_has ls 4 [(0, .ref oM), (1, .int kd), (2, .long wo)] := hl
  have hP : va_P (dC, dI) vwCl [(oM, .inr (8, [.int th, .ref mT, .int ml, .int ma, .int mk, .int mp, .long mv, .int mw, .ref mN, .ref mD, .ref mF, .ref mS, .ref mL, .ref mR, .ref mE, .ref mK, .ref mV, .int dr, .int dc, .int ds, .int ru, .int cl, .ref mO, .int os, .int fc, .ref mA, .ref mB, .ref mU, .ref mW, .int pi, .int wh, .long ms, .int aq, .int da, .ref mX, .ref mY, .long lu, .long ld, .long qu, .long qd])), (mK, .inl (cI, 480, .inl sk)), (mV, .inl (cJ, 480, .inr (.inl sv)))] s.heap := hP
  have hF : f_Model_step kd wo ds sk sv = (ds + 1, upd sk ds.toNatClampNeg kd, vp_updL sv ds.toNatClampNeg wo) := rfl
  refine lv_aload_n hx hb d_Model_step_0 rfl (lv_at hl 0 rfl) ?_
  refine va_get (D := (dC, dI)) (ci := 8) (v := .ref mK) (C := "PermitRulesModel") (T := T_Model) (N := 40) hx hb htb in_Model hown hK hP 0 rfl rfl 15 (by decide) (htb _ mb_668) (fun _ h9 => h9) rfl d_Model_step_1 ?_
  refine lv_aload_n hx hb d_Model_step_4 rfl (lv_at hl 0 rfl) ?_
  refine va_get (D := (dC, dI)) (ci := 8) (v := .int ds) (C := "PermitRulesModel") (T := T_Model) (N := 40) hx hb htb in_Model hown hK hP 0 rfl rfl 19 (by decide) (htb _ mb_672) (fun _ h9 => h9) rfl d_Model_step_5 ?_
  refine lv_iload_n hx hb d_Model_step_8 rfl (lv_at hl 1 rfl) ?_
  refine va_iast hx hb hK hP hD hS 1 1 rfl rfl (ib_in (Eq.refl ds.toInt) (by omega) (by omega)) d_Model_step_9 (fun H locs hP hD hS => ?_)
  have hP : va_P (dC, dI) vwCl [(oM, .inr (8, [.int th, .ref mT, .int ml, .int ma, .int mk, .int mp, .long mv, .int mw, .ref mN, .ref mD, .ref mF, .ref mS, .ref mL, .ref mR, .ref mE, .ref mK, .ref mV, .int dr, .int dc, .int ds, .int ru, .int cl, .ref mO, .int os, .int fc, .ref mA, .ref mB, .ref mU, .ref mW, .int pi, .int wh, .long ms, .int aq, .int da, .ref mX, .ref mY, .long lu, .long ld, .long qu, .long qd])), (mK, .inl (cI, 480, .inl (upd sk ds.toNatClampNeg kd))), (mV, .inl (cJ, 480, .inr (.inl sv)))] H := hP
  have hD : va_D A [(oM, .inr (8, [.int th, .ref mT, .int ml, .int ma, .int mk, .int mp, .long mv, .int mw, .ref mN, .ref mD, .ref mF, .ref mS, .ref mL, .ref mR, .ref mE, .ref mK, .ref mV, .int dr, .int dc, .int ds, .int ru, .int cl, .ref mO, .int os, .int fc, .ref mA, .ref mB, .ref mU, .ref mW, .int pi, .int wh, .long ms, .int aq, .int da, .ref mX, .ref mY, .long lu, .long ld, .long qu, .long qd])), (mK, .inl (cI, 480, .inl (upd sk ds.toNatClampNeg kd))), (mV, .inl (cJ, 480, .inr (.inl sv)))] := hD
  refine lv_aload_n hx hb d_Model_step_10 rfl (lv_at hl 0 rfl) ?_
  refine va_get (D := (dC, dI)) (ci := 8) (v := .ref mV) (C := "PermitRulesModel") (T := T_Model) (N := 40) hx hb htb in_Model hown hK hP 0 rfl rfl 16 (by decide) (htb _ mb_669) (fun _ h9 => h9) rfl d_Model_step_11 ?_
  refine lv_aload_n hx hb d_Model_step_14 rfl (lv_at hl 0 rfl) ?_
  refine va_get (D := (dC, dI)) (ci := 8) (v := .int ds) (C := "PermitRulesModel") (T := T_Model) (N := 40) hx hb htb in_Model hown hK hP 0 rfl rfl 19 (by decide) (htb _ mb_672) (fun _ h9 => h9) rfl d_Model_step_15 ?_
  refine lv_lload_n hx hb d_Model_step_18 rfl (lv_at hl 2 rfl) ?_
  refine va_last hx hb hK hP hD hS 2 2 rfl rfl (ib_in (Eq.refl ds.toInt) (by omega) (by omega)) d_Model_step_19 (fun H locs hP hD hS => ?_)
  have hP : va_P (dC, dI) vwCl [(oM, .inr (8, [.int th, .ref mT, .int ml, .int ma, .int mk, .int mp, .long mv, .int mw, .ref mN, .ref mD, .ref mF, .ref mS, .ref mL, .ref mR, .ref mE, .ref mK, .ref mV, .int dr, .int dc, .int ds, .int ru, .int cl, .ref mO, .int os, .int fc, .ref mA, .ref mB, .ref mU, .ref mW, .int pi, .int wh, .long ms, .int aq, .int da, .ref mX, .ref mY, .long lu, .long ld, .long qu, .long qd])), (mK, .inl (cI, 480, .inl (upd sk ds.toNatClampNeg kd))), (mV, .inl (cJ, 480, .inr (.inl (vp_updL sv ds.toNatClampNeg wo))))] H := hP
  have hD : va_D A [(oM, .inr (8, [.int th, .ref mT, .int ml, .int ma, .int mk, .int mp, .long mv, .int mw, .ref mN, .ref mD, .ref mF, .ref mS, .ref mL, .ref mR, .ref mE, .ref mK, .ref mV, .int dr, .int dc, .int ds, .int ru, .int cl, .ref mO, .int os, .int fc, .ref mA, .ref mB, .ref mU, .ref mW, .int pi, .int wh, .long ms, .int aq, .int da, .ref mX, .ref mY, .long lu, .long ld, .long qu, .long qd])), (mK, .inl (cI, 480, .inl (upd sk ds.toNatClampNeg kd))), (mV, .inl (cJ, 480, .inr (.inl (vp_updL sv ds.toNatClampNeg wo))))] := hD
  refine lv_aload_n hx hb d_Model_step_20 rfl (lv_at hl 0 rfl) ?_
  refine lv_dup hx hb d_Model_step_21 rfl ?_
  refine va_get (D := (dC, dI)) (ci := 8) (v := .int ds) (C := "PermitRulesModel") (T := T_Model) (N := 40) hx hb htb in_Model hown hK hP 0 rfl rfl 19 (by decide) (htb _ mb_672) (fun _ h9 => h9) rfl d_Model_step_22 ?_
  refine lv_iconst (v := 1) hx hb d_Model_step_25 (by decide) ?_
  refine lv_iadd hx hb d_Model_step_26 ?_
  refine va_put (D := (dC, dI)) (ci := 8) (v := .int (ds + 1)) (ty := .int) (C := "PermitRulesModel") (T := T_Model) (N := 40) hx hb htb in_Model ty_Model to_Model nm_Model hown hK hP hD hS 0 rfl rfl 19 (by decide) (htb _ mb_672) (fun _ h9 => h9) rfl (by decide +kernel) rfl rfl (Nat.le_of_ble_eq_true rfl) d_Model_step_27 (fun H locs hP hD hS => ?_)
  have hP : va_P (dC, dI) vwCl [(oM, .inr (8, [.int th, .ref mT, .int ml, .int ma, .int mk, .int mp, .long mv, .int mw, .ref mN, .ref mD, .ref mF, .ref mS, .ref mL, .ref mR, .ref mE, .ref mK, .ref mV, .int dr, .int dc, .int (ds + 1), .int ru, .int cl, .ref mO, .int os, .int fc, .ref mA, .ref mB, .ref mU, .ref mW, .int pi, .int wh, .long ms, .int aq, .int da, .ref mX, .ref mY, .long lu, .long ld, .long qu, .long qd])), (mK, .inl (cI, 480, .inl (upd sk ds.toNatClampNeg kd))), (mV, .inl (cJ, 480, .inr (.inl (vp_updL sv ds.toNatClampNeg wo))))] H := hP
  have hD : va_D A [(oM, .inr (8, [.int th, .ref mT, .int ml, .int ma, .int mk, .int mp, .long mv, .int mw, .ref mN, .ref mD, .ref mF, .ref mS, .ref mL, .ref mR, .ref mE, .ref mK, .ref mV, .int dr, .int dc, .int (ds + 1), .int ru, .int cl, .ref mO, .int os, .int fc, .ref mA, .ref mB, .ref mU, .ref mW, .int pi, .int wh, .long ms, .int aq, .int da, .ref mX, .ref mY, .long lu, .long ld, .long qu, .long qd])), (mK, .inl (cI, 480, .inl (upd sk ds.toNatClampNeg kd))), (mV, .inl (cJ, 480, .inr (.inl (vp_updL sv ds.toNatClampNeg wo))))] := hD
  have hP9 := hP.sub (ws' := [(oM, .inr (8, [.int th, .ref mT, .int ml, .int ma, .int mk, .int mp, .long mv, .int mw, .ref mN, .ref mD, .ref mF, .ref mS, .ref mL, .ref mR, .ref mE, .ref mK, .ref mV, .int dr, .int dc, .int (ds + 1), .int ru, .int cl, .ref mO, .int os, .int fc, .ref mA, .ref mB, .ref mU, .ref mW, .int pi, .int wh, .long ms, .int aq, .int da, .ref mX, .ref mY, .long lu, .long ld, .long qu, .long qd])), (mK, .inl (cI, 480, .inl (upd sk ds.toNatClampNeg kd))), (mV, .inl (cJ, 480, .inr (.inl (vp_updL sv ds.toNatClampNeg wo))))]) [0, 1, 2] rfl
  have hD9 := hD.sub (ws' := [(oM, .inr (8, [.int th, .ref mT, .int ml, .int ma, .int mk, .int mp, .long mv, .int mw, .ref mN, .ref mD, .ref mF, .ref mS, .ref mL, .ref mR, .ref mE, .ref mK, .ref mV, .int dr, .int dc, .int (ds + 1), .int ru, .int cl, .ref mO, .int os, .int fc, .ref mA, .ref mB, .ref mU, .ref mW, .int pi, .int wh, .long ms, .int aq, .int da, .ref mX, .ref mY, .long lu, .long ld, .long qu, .long qd])), (mK, .inl (cI, 480, .inl (upd sk ds.toNatClampNeg kd))), (mV, .inl (cJ, 480, .inr (.inl (vp_updL sv ds.toNatClampNeg wo))))]) [0, 1, 2] (by decide) rfl
  exact W.vret hx hb hr (fun t ht hW => ⟨⟨(ds + 1, upd sk ds.toNatClampNeg kd, vp_updL sv ds.toNatClampNeg wo), rfl, by rw [hF], by rw [ht]; exact hP9, hD9⟩, hS.F ht⟩) hS.2.2 d_Model_step_30
theorem mc_lt {z i ml : Int32} {mt : Nat → Int32} (hz : z = f_Model_character i ml mt) (h : z = 32) : i.toInt < ml.toInt := by
  rw [hz] at h
  unfold f_Model_character at h
  split at h
  · exact absurd h (by decide)
  · rename_i h1
    rw [oi_le] at h1
    omega
theorem md_lt {z i ml : Int32} {mt : Nat → Int32} (hz : z = f_Model_isDigit i ml mt) (h : ¬ z = 0) : i.toInt < ml.toInt := by
  rw [hz] at h
  unfold f_Model_isDigit f_Model_character at h
  by_cases h1 : ml ≤ i
  · rw [if_pos h1] at h
    exact absurd (by decide) h
  · rw [oi_le] at h1
    omega
theorem me_lt {z i ml : Int32} {mt : Nat → Int32} (hz : z = f_Model_isLetter i ml mt) (h : ¬ z = 0) : i.toInt < ml.toInt := by
  rw [hz] at h
  unfold f_Model_isLetter f_Model_character at h
  by_cases h1 : ml ≤ i
  · rw [if_pos h1] at h
    exact absurd (by decide) h
  · rw [oi_le] at h1
    omega
theorem ms_ds {kd ds : Int32} {wo : Int64} {sk : Nat → Int32} {sv : Nat → Int64} {z : Int32 × (Nat → Int32) × (Nat → Int64)} (hz : z = f_Model_step kd wo ds sk sv) (h0 : 0 ≤ ds.toInt) (h1 : ds.toInt < 480) : z.1.toInt = ds.toInt + 1 := by
  rw [hz]
  show (ds + 1).toInt = _
  rw [oi_add (by rw [oi_1]; omega) (by rw [oi_1]; omega), oi_1]
def f_Model_push (kd : Int32) (os : Int32) (op : (Nat → Int32)) : Int32 × (Nat → Int32) := (os + 1, upd op os.toNatClampNeg kd)
abbrev q_Model_push (dC : Nat → ClassId) (dI : Nat → Nat → Nat) (cB cI cJ : ClassId) (oM mT mN mD mF mS mL mR mE mK mV mO mA mB mU mW mX mY : Nat) (kd : Int32) (th : Int32) (ml : Int32) (ma : Int32) (mk : Int32) (mp : Int32) (mv : Int64) (mw : Int32) (dr : Int32) (dc : Int32) (ds : Int32) (ru : Int32) (cl : Int32) (os : Int32) (fc : Int32) (pi : Int32) (wh : Int32) (ms : Int64) (aq : Int32) (da : Int32) (lu : Int64) (ld : Int64) (qu : Int64) (qd : Int64) (op : (Nat → Int32)) (A : Nat → Prop) : Array Value → State → Outcome → State → Prop := va_Qv (fun u : Int32 × (Nat → Int32) => u = f_Model_push kd os op) (fun u t => va_P (dC, dI) vwCl [(oM, .inr (8, [.int th, .ref mT, .int ml, .int ma, .int mk, .int mp, .long mv, .int mw, .ref mN, .ref mD, .ref mF, .ref mS, .ref mL, .ref mR, .ref mE, .ref mK, .ref mV, .int dr, .int dc, .int ds, .int ru, .int cl, .ref mO, .int u.1, .int fc, .ref mA, .ref mB, .ref mU, .ref mW, .int pi, .int wh, .long ms, .int aq, .int da, .ref mX, .ref mY, .long lu, .long ld, .long qu, .long qd])), (mO, .inl (cI, 130, .inl u.2))] t.heap ∧ va_D A [(oM, .inr (8, [.int th, .ref mT, .int ml, .int ma, .int mk, .int mp, .long mv, .int mw, .ref mN, .ref mD, .ref mF, .ref mS, .ref mL, .ref mR, .ref mE, .ref mK, .ref mV, .int dr, .int dc, .int ds, .int ru, .int cl, .ref mO, .int u.1, .int fc, .ref mA, .ref mB, .ref mU, .ref mW, .int pi, .int wh, .long ms, .int aq, .int da, .ref mX, .ref mY, .long lu, .long ld, .long qu, .long qd])), (mO, .inl (cI, 130, .inl u.2))]) A
set_option maxHeartbeats 4000000 in
set_option maxRecDepth 100000 in
theorem c_Model_push (l : Launch) (dC : Nat → ClassId) (dI : Nat → Nat → Nat) (cB cI cJ : ClassId) (oM mT mN mD mF mS mL mR mE mK mV mO mA mB mU mW mX mY : Nat) (sz : Nat) (kd : Int32) (th : Int32) (ml : Int32) (ma : Int32) (mk : Int32) (mp : Int32) (mv : Int64) (mw : Int32) (dr : Int32) (dc : Int32) (ds : Int32) (ru : Int32) (cl : Int32) (os : Int32) (fc : Int32) (pi : Int32) (wh : Int32) (ms : Int64) (aq : Int32) (da : Int32) (lu : Int64) (ld : Int64) (qu : Int64) (qd : Int64) (op : (Nat → Int32)) (h0 : 0 ≤ os.toInt) (h1 : os.toInt < 130) : Met l y_Model_push (cw_Model_push :: bgw) { frames := 0, cells := 0, slots := 0, locals := 0 } (va_Pc [.ref oM, .int kd] (kb_B dC dI cB cI cJ [(oM, .inr (8, [.int th, .ref mT, .int ml, .int ma, .int mk, .int mp, .long mv, .int mw, .ref mN, .ref mD, .ref mF, .ref mS, .ref mL, .ref mR, .ref mE, .ref mK, .ref mV, .int dr, .int dc, .int ds, .int ru, .int cl, .ref mO, .int os, .int fc, .ref mA, .ref mB, .ref mU, .ref mW, .int pi, .int wh, .long ms, .int aq, .int da, .ref mX, .ref mY, .long lu, .long ld, .long qu, .long qd])), (mO, .inl (cI, 130, .inl op))] sz)) (q_Model_push dC dI cB cI cJ oM mT mN mD mF mS mL mR mE mK mV mO mA mB mU mW mX mY kd th ml ma mk mp mv mw dr dc ds ru cl os fc pi wh ms aq da lu ld qu qd op (va_A [(oM, .inr (8, [.int th, .ref mT, .int ml, .int ma, .int mk, .int mp, .long mv, .int mw, .ref mN, .ref mD, .ref mF, .ref mS, .ref mL, .ref mR, .ref mE, .ref mK, .ref mV, .int dr, .int dc, .int ds, .int ru, .int cl, .ref mO, .int os, .int fc, .ref mA, .ref mB, .ref mU, .ref mW, .int pi, .int wh, .long ms, .int aq, .int da, .ref mX, .ref mY, .long lu, .long ld, .long qu, .long qd])), (mO, .inl (cI, 130, .inl op))] sz)) 0 0 (va_A [(oM, .inr (8, [.int th, .ref mT, .int ml, .int ma, .int mk, .int mp, .long mv, .int mw, .ref mN, .ref mD, .ref mF, .ref mS, .ref mL, .ref mR, .ref mE, .ref mK, .ref mV, .int dr, .int dc, .int ds, .int ru, .int cl, .ref mO, .int os, .int fc, .ref mA, .ref mB, .ref mU, .ref mW, .int pi, .int wh, .long ms, .int aq, .int da, .ref mX, .ref mY, .long lu, .long ld, .long qu, .long qd])), (mO, .inl (cI, 130, .inl op))] sz) := by
  refine Met.ofW (cc := prog_10_method_15_code) (maxL := 2) (ret := none) (by decide) rfl ?_
  intro p e s m args below meth c s₁ B hml hv
  obtain ⟨rfl, hsz, hP, hKx, hD0⟩ := hv
  have hx := B.exec
  have hb := B.bytes
  have hr := B.returns
  have hts := atoms_spec (ws := (cw_Model_push :: bgw)) B.pre
  have hown : s.vm.findClass "PermitRulesModel" = some m.cls := findClass_of_methodNamed B.named
  have hlocks := B.notSynchronized
  have htb := fun (w : Cond) (h : w ∈ bgw) => hts w (List.mem_cons_of_mem _ h)
  have hK := hKx.1
  subst hsz
  have hD := hD0.self (sz := s.heap.size)
  generalize hAe : va_A [(oM, .inr (8, [.int th, .ref mT, .int ml, .int ma, .int mk, .int mp, .long mv, .int mw, .ref mN, .ref mD, .ref mF, .ref mS, .ref mL, .ref mR, .ref mE, .ref mK, .ref mV, .int dr, .int dc, .int ds, .int ru, .int cl, .ref mO, .int os, .int fc, .ref mA, .ref mB, .ref mU, .ref mW, .int pi, .int wh, .long ms, .int aq, .int da, .ref mX, .ref mY, .long lu, .long ld, .long qu, .long qd])), (mO, .inl (cI, 130, .inl op))] s.heap.size = A at hD ⊢
  have hA : ∀ q : Nat, s.heap.size ≤ q → A q := fun q h => by rw [← hAe]; exact Or.inr h
  have hS : va_S A s.heap s.heap [] := va_S.rf
  have hl := lv_entry ([.ref oM, .int kd]) (n := 2) (Nat.le_of_ble_eq_true rfl)
  rw [lg_entry_eq]
  generalize (lg_sl ([.ref oM, .int kd]) ++ List.replicate (2 - (lg_sl ([.ref oM, .int kd])).length) Slot.unset).toArray = ls at hl ⊢
  have hl : lv_has ls 2 [(0, .ref oM), (1, .int kd)] := hl
  have hP : va_P (dC, dI) vwCl [(oM, .inr (8, [.int th, .ref mT, .int ml, .int ma, .int mk, .int mp, .long mv, .int mw, .ref mN, .ref mD, .ref mF, .ref mS, .ref mL, .ref mR, .ref mE, .ref mK, .ref mV, .int dr, .int dc, .int ds, .int ru, .int cl, .ref mO, .int os, .int fc, .ref mA, .ref mB, .ref mU, .ref mW, .int pi, .int wh, .long ms, .int aq, .int da, .ref mX, .ref mY, .long lu, .long ld, .long qu, .long qd])), (mO, .inl (cI, 130, .inl op))] s.heap := hP
  have hF : f_Model_push kd os op = (os + 1, upd op os.toNatClampNeg kd) := rfl
  refine lv_aload_n hx hb d_Model_push_0 rfl (lv_at hl 0 rfl) ?_
  refine va_get (D := (dC, dI)) (ci := 8) (v := .ref mO) (C := "PermitRulesModel") (T := T_Model) (N := 40) hx hb htb in_Model hown hK hP 0 rfl rfl 22 (by decide) (htb _ mb_675) (fun _ h9 => h9) rfl d_Model_push_1 ?_
  refine lv_aload_n hx hb d_Model_push_4 rfl (lv_at hl 0 rfl) ?_
  refine va_get (D := (dC, dI)) (ci := 8) (v := .int os) (C := "PermitRulesModel") (T := T_Model) (N := 40) hx hb htb in_Model hown hK hP 0 rfl rfl 23 (by decide) (htb _ mb_676) (fun _ h9 => h9) rfl d_Model_push_5 ?_
  refine lv_iload_n hx hb d_Model_push_8 rfl (lv_at hl 1 rfl) ?_
  refine va_iast hx hb hK hP hD hS 1 1 rfl rfl (ib_in (Eq.refl os.toInt) (by omega) (by omega)) d_Model_push_9 (fun H locs hP hD hS => ?_)
  have hP : va_P (dC, dI) vwCl [(oM, .inr (8, [.int th, .ref mT, .int ml, .int ma, .int mk, .int mp, .long mv, .int mw, .ref mN, .ref mD, .ref mF, .ref mS, .ref mL, .ref mR, .ref mE, .ref mK, .ref mV, .int dr, .int dc, .int ds, .int ru, .int cl, .ref mO, .int os, .int fc, .ref mA, .ref mB, .ref mU, .ref mW, .int pi, .int wh, .long ms, .int aq, .int da, .ref mX, .ref mY, .long lu, .long ld, .long qu, .long qd])), (mO, .inl (cI, 130, .inl (upd op os.toNatClampNeg kd)))] H := hP
  have hD : va_D A [(oM, .inr (8, [.int th, .ref mT, .int ml, .int ma, .int mk, .int mp, .long mv, .int mw, .ref mN, .ref mD, .ref mF, .ref mS, .ref mL, .ref mR, .ref mE, .ref mK, .ref mV, .int dr, .int dc, .int ds, .int ru, .int cl, .ref mO, .int os, .int fc, .ref mA, .ref mB, .ref mU, .ref mW, .int pi, .int wh, .long ms, .int aq, .int da, .ref mX, .ref mY, .long lu, .long ld, .long qu, .long qd])), (mO, .inl (cI, 130, .inl (upd op os.toNatClampNeg kd)))] := hD
  refine lv_aload_n hx hb d_Model_push_10 rfl (lv_at hl 0 rfl) ?_
  refine lv_dup hx hb d_Model_push_11 rfl ?_
  refine va_get (D := (dC, dI)) (ci := 8) (v := .int os) (C := "PermitRulesModel") (T := T_Model) (N := 40) hx hb htb in_Model hown hK hP 0 rfl rfl 23 (by decide) (htb _ mb_676) (fun _ h9 => h9) rfl d_Model_push_12 ?_
  refine lv_iconst (v := 1) hx hb d_Model_push_15 (by decide) ?_
  refine lv_iadd hx hb d_Model_push_16 ?_
  refine va_put (D := (dC, dI)) (ci := 8) (v := .int (os + 1)) (ty := .int) (C := "PermitRulesModel") (T := T_Model) (N := 40) hx hb htb in_Model ty_Model to_Model nm_Model hown hK hP hD hS 0 rfl rfl 23 (by decide) (htb _ mb_676) (fun _ h9 => h9) rfl (by decide +kernel) rfl rfl (Nat.le_of_ble_eq_true rfl) d_Model_push_17 (fun H locs hP hD hS => ?_)
  have hP : va_P (dC, dI) vwCl [(oM, .inr (8, [.int th, .ref mT, .int ml, .int ma, .int mk, .int mp, .long mv, .int mw, .ref mN, .ref mD, .ref mF, .ref mS, .ref mL, .ref mR, .ref mE, .ref mK, .ref mV, .int dr, .int dc, .int ds, .int ru, .int cl, .ref mO, .int (os + 1), .int fc, .ref mA, .ref mB, .ref mU, .ref mW, .int pi, .int wh, .long ms, .int aq, .int da, .ref mX, .ref mY, .long lu, .long ld, .long qu, .long qd])), (mO, .inl (cI, 130, .inl (upd op os.toNatClampNeg kd)))] H := hP
  have hD : va_D A [(oM, .inr (8, [.int th, .ref mT, .int ml, .int ma, .int mk, .int mp, .long mv, .int mw, .ref mN, .ref mD, .ref mF, .ref mS, .ref mL, .ref mR, .ref mE, .ref mK, .ref mV, .int dr, .int dc, .int ds, .int ru, .int cl, .ref mO, .int (os + 1), .int fc, .ref mA, .ref mB, .ref mU, .ref mW, .int pi, .int wh, .long ms, .int aq, .int da, .ref mX, .ref mY, .long lu, .long ld, .long qu, .long qd])), (mO, .inl (cI, 130, .inl (upd op os.toNatClampNeg kd)))] := hD
  have hP9 := hP.sub (ws' := [(oM, .inr (8, [.int th, .ref mT, .int ml, .int ma, .int mk, .int mp, .long mv, .int mw, .ref mN, .ref mD, .ref mF, .ref mS, .ref mL, .ref mR, .ref mE, .ref mK, .ref mV, .int dr, .int dc, .int ds, .int ru, .int cl, .ref mO, .int (os + 1), .int fc, .ref mA, .ref mB, .ref mU, .ref mW, .int pi, .int wh, .long ms, .int aq, .int da, .ref mX, .ref mY, .long lu, .long ld, .long qu, .long qd])), (mO, .inl (cI, 130, .inl (upd op os.toNatClampNeg kd)))]) [0, 1] rfl
  have hD9 := hD.sub (ws' := [(oM, .inr (8, [.int th, .ref mT, .int ml, .int ma, .int mk, .int mp, .long mv, .int mw, .ref mN, .ref mD, .ref mF, .ref mS, .ref mL, .ref mR, .ref mE, .ref mK, .ref mV, .int dr, .int dc, .int ds, .int ru, .int cl, .ref mO, .int (os + 1), .int fc, .ref mA, .ref mB, .ref mU, .ref mW, .int pi, .int wh, .long ms, .int aq, .int da, .ref mX, .ref mY, .long lu, .long ld, .long qu, .long qd])), (mO, .inl (cI, 130, .inl (upd op os.toNatClampNeg kd)))]) [0, 1] (by decide) rfl
  exact W.vret hx hb hr (fun t ht hW => ⟨⟨(os + 1, upd op os.toNatClampNeg kd), rfl, by rw [hF], by rw [ht]; exact hP9, hD9⟩, hS.F ht⟩) hS.2.2 d_Model_push_20
def f_Model_reduce_L0 (le : Int32) (ds : Int32) (os : Int32) (sk : (Nat → Int32)) (sv : (Nat → Int64)) (op : (Nat → Int32)) : Nat → Int32 → Int32 → (Nat → Int32) → (Nat → Int64) → Int32 × Int32 × (Nat → Int32) × (Nat → Int64)
  | 0, _, _, _, _ => (0, 0, (fun _ => 0), (fun _ => 0))
  | n + 1, xs_, xo, xk, xv => (if xo ≤ 0 then (xs_, xo, xk, xv) else (lt_ (f_Model_rank (op (xo - 1).toNatClampNeg)) fun z_2 => (if z_2 < le then (xs_, xo, xk, xv) else (lt_ (f_Model_step (op (xo - 1).toNatClampNeg) 0 xs_ xk xv) fun z_4 => (f_Model_reduce_L0 le ds os sk sv op n z_4.1 (xo - 1) z_4.2.1 z_4.2.2)))))
theorem f_Model_reduce_L0_s (le : Int32) (ds : Int32) (os : Int32) (sk : (Nat → Int32)) (sv : (Nat → Int64)) (op : (Nat → Int32)) (n : Nat) (xs_ : Int32) (xo : Int32) (xk : (Nat → Int32)) (xv : (Nat → Int64)) : f_Model_reduce_L0 le ds os sk sv op (n + 1) xs_ xo xk xv = (if xo ≤ 0 then (xs_, xo, xk, xv) else (lt_ (f_Model_rank (op (xo - 1).toNatClampNeg)) fun z_2 => (if z_2 < le then (xs_, xo, xk, xv) else (lt_ (f_Model_step (op (xo - 1).toNatClampNeg) 0 xs_ xk xv) fun z_4 => (f_Model_reduce_L0 le ds os sk sv op n z_4.1 (xo - 1) z_4.2.1 z_4.2.2))))) := rfl
def f_Model_reduce (le : Int32) (ds : Int32) (os : Int32) (sk : (Nat → Int32)) (sv : (Nat → Int64)) (op : (Nat → Int32)) : Int32 × Int32 × (Nat → Int32) × (Nat → Int64) := (f_Model_reduce_L0 le ds os sk sv op (os.toInt.toNat + 1) ds os sk sv)
abbrev q_Model_reduce (dC : Nat → ClassId) (dI : Nat → Nat → Nat) (cB cI cJ : ClassId) (oM mT mN mD mF mS mL mR mE mK mV mO mA mB mU mW mX mY : Nat) (le : Int32) (th : Int32) (ml : Int32) (ma : Int32) (mk : Int32) (mp : Int32) (mv : Int64) (mw : Int32) (dr : Int32) (dc : Int32) (ds : Int32) (ru : Int32) (cl : Int32) (os : Int32) (fc : Int32) (pi : Int32) (wh : Int32) (ms : Int64) (aq : Int32) (da : Int32) (lu : Int64) (ld : Int64) (qu : Int64) (qd : Int64) (sk : (Nat → Int32)) (sv : (Nat → Int64)) (op : (Nat → Int32)) (A : Nat → Prop) : Array Value → State → Outcome → State → Prop := va_Qv (fun u : Int32 × Int32 × (Nat → Int32) × (Nat → Int64) => u = f_Model_reduce le ds os sk sv op) (fun u t => va_P (dC, dI) vwCl [(oM, .inr (8, [.int th, .ref mT, .int ml, .int ma, .int mk, .int mp, .long mv, .int mw, .ref mN, .ref mD, .ref mF, .ref mS, .ref mL, .ref mR, .ref mE, .ref mK, .ref mV, .int dr, .int dc, .int u.1, .int ru, .int cl, .ref mO, .int u.2.1, .int fc, .ref mA, .ref mB, .ref mU, .ref mW, .int pi, .int wh, .long ms, .int aq, .int da, .ref mX, .ref mY, .long lu, .long ld, .long qu, .long qd])), (mK, .inl (cI, 480, .inl u.2.2.1)), (mV, .inl (cJ, 480, .inr (.inl u.2.2.2))), (mO, .inl (cI, 130, .inl op))] t.heap ∧ va_D A [(oM, .inr (8, [.int th, .ref mT, .int ml, .int ma, .int mk, .int mp, .long mv, .int mw, .ref mN, .ref mD, .ref mF, .ref mS, .ref mL, .ref mR, .ref mE, .ref mK, .ref mV, .int dr, .int dc, .int u.1, .int ru, .int cl, .ref mO, .int u.2.1, .int fc, .ref mA, .ref mB, .ref mU, .ref mW, .int pi, .int wh, .long ms, .int aq, .int da, .ref mX, .ref mY, .long lu, .long ld, .long qu, .long qd])), (mK, .inl (cI, 480, .inl u.2.2.1)), (mV, .inl (cJ, 480, .inr (.inl u.2.2.2))), (mO, .inl (cI, 130, .inl op))]) A
set_option maxHeartbeats 4000000 in
set_option maxRecDepth 100000 in
theorem c_Model_reduce (l : Launch) (dC : Nat → ClassId) (dI : Nat → Nat → Nat) (cB cI cJ : ClassId) (oM mT mN mD mF mS mL mR mE mK mV mO mA mB mU mW mX mY : Nat) (sz : Nat) (le : Int32) (th : Int32) (ml : Int32) (ma : Int32) (mk : Int32) (mp : Int32) (mv : Int64) (mw : Int32) (dr : Int32) (dc : Int32) (ds : Int32) (ru : Int32) (cl : Int32) (os : Int32) (fc : Int32) (pi : Int32) (wh : Int32) (ms : Int64) (aq : Int32) (da : Int32) (lu : Int64) (ld : Int64) (qu : Int64) (qd : Int64) (sk : (Nat → Int32)) (sv : (Nat → Int64)) (op : (Nat → Int32)) (h0 : 0 ≤ ds.toInt) (h1 : 0 ≤ os.toInt) (h2 : os.toInt ≤ 130) (h3 : ds.toInt + os.toInt ≤ 480) : Met l y_Model_reduce (cw_Model_reduce :: bgw) { frames := 1, cells := 0, slots := 0, locals := 23 } (va_Pc [.ref oM, .int le] (kb_B dC dI cB cI cJ [(oM, .inr (8, [.int th, .ref mT, .int ml, .int ma, .int mk, .int mp, .long mv, .int mw, .ref mN, .ref mD, .ref mF, .ref mS, .ref mL, .ref mR, .ref mE, .ref mK, .ref mV, .int dr, .int dc, .int ds, .int ru, .int cl, .ref mO, .int os, .int fc, .ref mA, .ref mB, .ref mU, .ref mW, .int pi, .int wh, .long ms, .int aq, .int da, .ref mX, .ref mY, .long lu, .long ld, .long qu, .long qd])), (mK, .inl (cI, 480, .inl sk)), (mV, .inl (cJ, 480, .inr (.inl sv))), (mO, .inl (cI, 130, .inl op))] sz)) (q_Model_reduce dC dI cB cI cJ oM mT mN mD mF mS mL mR mE mK mV mO mA mB mU mW mX mY le th ml ma mk mp mv mw dr dc ds ru cl os fc pi wh ms aq da lu ld qu qd sk sv op (va_A [(oM, .inr (8, [.int th, .ref mT, .int ml, .int ma, .int mk, .int mp, .long mv, .int mw, .ref mN, .ref mD, .ref mF, .ref mS, .ref mL, .ref mR, .ref mE, .ref mK, .ref mV, .int dr, .int dc, .int ds, .int ru, .int cl, .ref mO, .int os, .int fc, .ref mA, .ref mB, .ref mU, .ref mW, .int pi, .int wh, .long ms, .int aq, .int da, .ref mX, .ref mY, .long lu, .long ld, .long qu, .long qd])), (mK, .inl (cI, 480, .inl sk)), (mV, .inl (cJ, 480, .inr (.inl sv))), (mO, .inl (cI, 130, .inl op))] sz)) 0 0 (va_A [(oM, .inr (8, [.int th, .ref mT, .int ml, .int ma, .int mk, .int mp, .long mv, .int mw, .ref mN, .ref mD, .ref mF, .ref mS, .ref mL, .ref mR, .ref mE, .ref mK, .ref mV, .int dr, .int dc, .int ds, .int ru, .int cl, .ref mO, .int os, .int fc, .ref mA, .ref mB, .ref mU, .ref mW, .int pi, .int wh, .long ms, .int aq, .int da, .ref mX, .ref mY, .long lu, .long ld, .long qu, .long qd])), (mK, .inl (cI, 480, .inl sk)), (mV, .inl (cJ, 480, .inr (.inl sv))), (mO, .inl (cI, 130, .inl op))] sz) := by
  refine Met.ofW (cc := prog_10_method_14_code) (maxL := 2) (ret := none) (by decide) rfl ?_
  intro p e s m args below meth c s₁ B hml hv
  obtain ⟨rfl, hsz, hP, hKx, hD0⟩ := hv
  have hx := B.exec
  have hb := B.bytes
  have hr := B.returns
  have hts := atoms_spec (ws := (cw_Model_reduce :: bgw)) B.pre
  have hown : s.vm.findClass "PermitRulesModel" = some m.cls := findClass_of_methodNamed B.named
  have hlocks := B.notSynchronized
  have htb := fun (w : Cond) (h : w ∈ bgw) => hts w (List.mem_cons_of_mem _ h)
  have hK := hKx.1
  subst hsz
  have hD := hD0.self (sz := s.heap.size)
  generalize hAe : va_A [(oM, .inr (8, [.int th, .ref mT, .int ml, .int ma, .int mk, .int mp, .long mv, .int mw, .ref mN, .ref mD, .ref mF, .ref mS, .ref mL, .ref mR, .ref mE, .ref mK, .ref mV, .int dr, .int dc, .int ds, .int ru, .int cl, .ref mO, .int os, .int fc, .ref mA, .ref mB, .ref mU, .ref mW, .int pi, .int wh, .long ms, .int aq, .int da, .ref mX, .ref mY, .long lu, .long ld, .long qu, .long qd])), (mK, .inl (cI, 480, .inl sk)), (mV, .inl (cJ, 480, .inr (.inl sv))), (mO, .inl (cI, 130, .inl op))] s.heap.size = A at hD ⊢
  have hA : ∀ q : Nat, s.heap.size ≤ q → A q := fun q h => by rw [← hAe]; exact Or.inr h
  have hS : va_S A s.heap s.heap [] := va_S.rf
  have hl := lv_entry ([.ref oM, .int le]) (n := 2) (Nat.le_of_ble_eq_true rfl)
  rw [lg_entry_eq]
  generalize (lg_sl ([.ref oM, .int le]) ++ List.replicate (2 - (lg_sl ([.ref oM, .int le])).length) Slot.unset).toArray = ls at hl ⊢
  have hl : lv_has ls 2 [(0, .ref oM), (1, .int le)] := hl
  have hP : va_P (dC, dI) vwCl [(oM, .inr (8, [.int th, .ref mT, .int ml, .int ma, .int mk, .int mp, .long mv, .int mw, .ref mN, .ref mD, .ref mF, .ref mS, .ref mL, .ref mR, .ref mE, .ref mK, .ref mV, .int dr, .int dc, .int ds, .int ru, .int cl, .ref mO, .int os, .int fc, .ref mA, .ref mB, .ref mU, .ref mW, .int pi, .int wh, .long ms, .int aq, .int da, .ref mX, .ref mY, .long lu, .long ld, .long qu, .long qd])), (mK, .inl (cI, 480, .inl sk)), (mV, .inl (cJ, 480, .inr (.inl sv))), (mO, .inl (cI, 130, .inl op))] s.heap := hP
  have hF : f_Model_reduce le ds os sk sv op = (f_Model_reduce_L0 le ds os sk sv op (os.toInt.toNat + 1) ds os sk sv) := rfl
  have lp0 : ∀ (n : Nat) (xs_ : Int32) (xo : Int32) (xk : (Nat → Int32)) (xv : (Nat → Int64)), 0 ≤ xs_.toInt → 0 ≤ xo.toInt → xo.toInt ≤ 130 → xs_.toInt + xo.toInt ≤ 480 → xo.toInt.toNat < n → f_Model_reduce le ds os sk sv op = f_Model_reduce_L0 le ds os sk sv op n xs_ xo xk xv → ∀ (H : Heap) (locs : List Loc) (ls : Array Slot), va_P (dC, dI) vwCl [(oM, .inr (8, [.int th, .ref mT, .int ml, .int ma, .int mk, .int mp, .long mv, .int mw, .ref mN, .ref mD, .ref mF, .ref mS, .ref mL, .ref mR, .ref mE, .ref mK, .ref mV, .int dr, .int dc, .int xs_, .int ru, .int cl, .ref mO, .int xo, .int fc, .ref mA, .ref mB, .ref mU, .ref mW, .int pi, .int wh, .long ms, .int aq, .int da, .ref mX, .ref mY, .long lu, .long ld, .long qu, .long qd])), (mK, .inl (cI, 480, .inl xk)), (mV, .inl (cJ, 480, .inr (.inl xv))), (mO, .inl (cI, 130, .inl op))] H → va_D A [(oM, .inr (8, [.int th, .ref mT, .int ml, .int ma, .int mk, .int mp, .long mv, .int mw, .ref mN, .ref mD, .ref mF, .ref mS, .ref mL, .ref mR, .ref mE, .ref mK, .ref mV, .int dr, .int dc, .int xs_, .int ru, .int cl, .ref mO, .int xo, .int fc, .ref mA, .ref mB, .ref mU, .ref mW, .int pi, .int wh, .long ms, .int aq, .int da, .ref mX, .ref mY, .long lu, .long ld, .long qu, .long qd])), (mK, .inl (cI, 480, .inl xk)), (mV, .inl (cJ, 480, .inr (.inl xv))), (mO, .inl (cI, 130, .inl op))] → va_S A s.heap H locs → lv_has ls 2 [(0, .ref oM), (1, .int le)] → W p l e (headSpec (cw_Model_reduce :: bgw) { frames := 1, cells := 0, slots := 0, locals := 23 }).room s m ([.ref oM, .int le] : List Value).toArray below meth c H locs 0 0 (MQ below (q_Model_reduce dC dI cB cI cJ oM mT mN mD mF mS mL mR mE mK mV mO mA mB mU mW mX mY le th ml ma mk mp mv mw dr dc ds ru cl os fc pi wh ms aq da lu ld qu qd sk sv op A) ([.ref oM, .int le] : List Value).toArray s 0 0 A) (F0 m 0 ls []) := by
    intro n
    induction n with
    | zero => intro xs_ xo xk xv i0 i1 i2 i3 hn; exact absurd hn (Nat.not_lt_zero _)
    | succ n ih =>
      intro xs_ xo xk xv i0 i1 i2 i3 hn hF H locs ls hP hD hS hl
      have hF := hF.trans (f_Model_reduce_L0_s le ds os sk sv op n xs_ xo xk xv)
      refine lv_aload_n hx hb d_Model_reduce_0 rfl (lv_at hl 0 rfl) ?_
      refine va_get (D := (dC, dI)) (ci := 8) (v := .int xo) (C := "PermitRulesModel") (T := T_Model) (N := 40) hx hb htb in_Model hown hK hP 0 rfl rfl 23 (by decide) (htb _ mb_676) (fun _ h9 => h9) rfl d_Model_reduce_1 ?_
      refine lv_if_le (tgt := 52) hx hb d_Model_reduce_4 (by decide) (fun c_1 => ?_) (fun c_1 => ?_)
      · have hF := hF.trans (if_pos c_1)
        have tc_1 := ti_le (Eq.refl xo.toInt) (show (0 : Int32).toInt = 0 by decide) c_1
        have hP9 := hP.sub (ws' := [(oM, .inr (8, [.int th, .ref mT, .int ml, .int ma, .int mk, .int mp, .long mv, .int mw, .ref mN, .ref mD, .ref mF, .ref mS, .ref mL, .ref mR, .ref mE, .ref mK, .ref mV, .int dr, .int dc, .int xs_, .int ru, .int cl, .ref mO, .int xo, .int fc, .ref mA, .ref mB, .ref mU, .ref mW, .int pi, .int wh, .long ms, .int aq, .int da, .ref mX, .ref mY, .long lu, .long ld, .long qu, .long qd])), (mK, .inl (cI, 480, .inl xk)), (mV, .inl (cJ, 480, .inr (.inl xv))), (mO, .inl (cI, 130, .inl op))]) [0, 1, 2, 3] rfl
        have hD9 := hD.sub (ws' := [(oM, .inr (8, [.int th, .ref mT, .int ml, .int ma, .int mk, .int mp, .long mv, .int mw, .ref mN, .ref mD, .ref mF, .ref mS, .ref mL, .ref mR, .ref mE, .ref mK, .ref mV, .int dr, .int dc, .int xs_, .int ru, .int cl, .ref mO, .int xo, .int fc, .ref mA, .ref mB, .ref mU, .ref mW, .int pi, .int wh, .long ms, .int aq, .int da, .ref mX, .ref mY, .long lu, .long ld, .long qu, .long qd])), (mK, .inl (cI, 480, .inl xk)), (mV, .inl (cJ, 480, .inr (.inl xv))), (mO, .inl (cI, 130, .inl op))]) [0, 1, 2, 3] (by decide) rfl
        exact W.vret hx hb hr (fun t ht hW => ⟨⟨(xs_, xo, xk, xv), rfl, by rw [hF], by rw [ht]; exact hP9, hD9⟩, hS.F ht⟩) hS.2.2 d_Model_reduce_52
      · have hF := hF.trans (if_neg c_1)
        have tc_1 := ti_nle (Eq.refl xo.toInt) (show (0 : Int32).toInt = 0 by decide) c_1
        refine lv_aload_n hx hb d_Model_reduce_7 rfl (lv_at hl 0 rfl) ?_
        refine va_get (D := (dC, dI)) (ci := 8) (v := .ref mO) (C := "PermitRulesModel") (T := T_Model) (N := 40) hx hb htb in_Model hown hK hP 0 rfl rfl 22 (by decide) (htb _ mb_675) (fun _ h9 => h9) rfl d_Model_reduce_8 ?_
        refine lv_aload_n hx hb d_Model_reduce_11 rfl (lv_at hl 0 rfl) ?_
        refine va_get (D := (dC, dI)) (ci := 8) (v := .int xo) (C := "PermitRulesModel") (T := T_Model) (N := 40) hx hb htb in_Model hown hK hP 0 rfl rfl 23 (by decide) (htb _ mb_676) (fun _ h9 => h9) rfl d_Model_reduce_12 ?_
        refine lv_iconst (v := 1) hx hb d_Model_reduce_15 (by decide) ?_
        refine lv_isub hx hb d_Model_reduce_16 ?_
        refine va_iald hx hb hK hP 3 1 rfl rfl (ib_in (oi_subE (Eq.refl xo.toInt) (show (1 : Int32).toInt = 1 by decide) (by omega) (by omega)) (by omega) (by omega)) d_Model_reduce_17 ?_
        have hPc := hP.sub (ws' := []) [] rfl
        have hDc := hD.sub (ws' := []) [] (by decide) rfl
        have hFc := va_free (wc := []) hD hS hA [] rfl
        refine va_calli (va_runS (As := [.int (op (xo - 1).toNatClampNeg)]) (rest := []) ⟨hx, hb, hml, hown, htb⟩ (c_Model_rank l dC dI cB cI cJ  _ (op (xo - 1).toNatClampNeg) ) ⟨callB_of 1 htb (gb_all mb_839) rfl rfl rfl (htb _ mb_9) (htb _ mb_837) (by decide +kernel) ⟨Nat.le_of_ble_eq_true rfl, Nat.le_of_ble_eq_true rfl⟩, htb _ mb_838⟩ ⟨kb_blind, kb_at hPc hDc hKx⟩ rfl rfl hl.1 rfl (lv_room (Nat.le_of_ble_eq_true rfl)) d_Model_reduce_18 ⟨Nat.le_of_ble_eq_true rfl, Nat.le_of_ble_eq_true rfl⟩) hS (fun q _ h => hFc q h) hFc (fun z_2 u t H1 locs ht hvm hw hB hz1 hk1 hS => ?_)
        have hz_2 := hw
        have hF := hF.trans (lt_e hz_2)
        obtain ⟨hP1, hD1⟩ := hB
        rw [ht] at hP1
        obtain ⟨hP, hD⟩ := va_join (wr := [(oM, .inr (8, [.int th, .ref mT, .int ml, .int ma, .int mk, .int mp, .long mv, .int mw, .ref mN, .ref mD, .ref mF, .ref mS, .ref mL, .ref mR, .ref mE, .ref mK, .ref mV, .int dr, .int dc, .int xs_, .int ru, .int cl, .ref mO, .int xo, .int fc, .ref mA, .ref mB, .ref mU, .ref mW, .int pi, .int wh, .long ms, .int aq, .int da, .ref mX, .ref mY, .long lu, .long ld, .long qu, .long qd])), (mK, .inl (cI, 480, .inl xk)), (mV, .inl (cJ, 480, .inr (.inl xv))), (mO, .inl (cI, 130, .inl op))]) (w1 := []) hP hD [] [0, 1, 2, 3] rfl rfl (by decide) (by decide) hk1 hFc hP1 hD1
        generalize H1 = H at hP hS ⊢
        have hP : va_P (dC, dI) vwCl [(oM, .inr (8, [.int th, .ref mT, .int ml, .int ma, .int mk, .int mp, .long mv, .int mw, .ref mN, .ref mD, .ref mF, .ref mS, .ref mL, .ref mR, .ref mE, .ref mK, .ref mV, .int dr, .int dc, .int xs_, .int ru, .int cl, .ref mO, .int xo, .int fc, .ref mA, .ref mB, .ref mU, .ref mW, .int pi, .int wh, .long ms, .int aq, .int da, .ref mX, .ref mY, .long lu, .long ld, .long qu, .long qd])), (mK, .inl (cI, 480, .inl xk)), (mV, .inl (cJ, 480, .inr (.inl xv))), (mO, .inl (cI, 130, .inl op))] H := hP
        have hD : va_D A [(oM, .inr (8, [.int th, .ref mT, .int ml, .int ma, .int mk, .int mp, .long mv, .int mw, .ref mN, .ref mD, .ref mF, .ref mS, .ref mL, .ref mR, .ref mE, .ref mK, .ref mV, .int dr, .int dc, .int xs_, .int ru, .int cl, .ref mO, .int xo, .int fc, .ref mA, .ref mB, .ref mU, .ref mW, .int pi, .int wh, .long ms, .int aq, .int da, .ref mX, .ref mY, .long lu, .long ld, .long qu, .long qd])), (mK, .inl (cI, 480, .inl xk)), (mV, .inl (cJ, 480, .inr (.inl xv))), (mO, .inl (cI, 130, .inl op))] := hD
        refine lv_iload_n hx hb d_Model_reduce_21 rfl (lv_at hl 1 rfl) ?_
        refine lv_icmp_lt (tgt := 52) hx hb d_Model_reduce_22 (by decide) (fun c_3 => ?_) (fun c_3 => ?_)
        · have hF := hF.trans (if_pos c_3)
          have tc_3 := ti_lt (Eq.refl z_2.toInt) (Eq.refl le.toInt) c_3
          have hP9 := hP.sub (ws' := [(oM, .inr (8, [.int th, .ref mT, .int ml, .int ma, .int mk, .int mp, .long mv, .int mw, .ref mN, .ref mD, .ref mF, .ref mS, .ref mL, .ref mR, .ref mE, .ref mK, .ref mV, .int dr, .int dc, .int xs_, .int ru, .int cl, .ref mO, .int xo, .int fc, .ref mA, .ref mB, .ref mU, .ref mW, .int pi, .int wh, .long ms, .int aq, .int da, .ref mX, .ref mY, .long lu, .long ld, .long qu, .long qd])), (mK, .inl (cI, 480, .inl xk)), (mV, .inl (cJ, 480, .inr (.inl xv))), (mO, .inl (cI, 130, .inl op))]) [0, 1, 2, 3] rfl
          have hD9 := hD.sub (ws' := [(oM, .inr (8, [.int th, .ref mT, .int ml, .int ma, .int mk, .int mp, .long mv, .int mw, .ref mN, .ref mD, .ref mF, .ref mS, .ref mL, .ref mR, .ref mE, .ref mK, .ref mV, .int dr, .int dc, .int xs_, .int ru, .int cl, .ref mO, .int xo, .int fc, .ref mA, .ref mB, .ref mU, .ref mW, .int pi, .int wh, .long ms, .int aq, .int da, .ref mX, .ref mY, .long lu, .long ld, .long qu, .long qd])), (mK, .inl (cI, 480, .inl xk)), (mV, .inl (cJ, 480, .inr (.inl xv))), (mO, .inl (cI, 130, .inl op))]) [0, 1, 2, 3] (by decide) rfl
          exact W.vret hx hb hr (fun t ht hW => ⟨⟨(xs_, xo, xk, xv), rfl, by rw [hF], by rw [ht]; exact hP9, hD9⟩, hS.F ht⟩) hS.2.2 d_Model_reduce_52
        · have hF := hF.trans (if_neg c_3)
          have tc_3 := ti_nlt (Eq.refl z_2.toInt) (Eq.refl le.toInt) c_3
          refine lv_aload_n hx hb d_Model_reduce_25 rfl (lv_at hl 0 rfl) ?_
          refine lv_dup hx hb d_Model_reduce_26 rfl ?_
          refine va_get (D := (dC, dI)) (ci := 8) (v := .int xo) (C := "PermitRulesModel") (T := T_Model) (N := 40) hx hb htb in_Model hown hK hP 0 rfl rfl 23 (by decide) (htb _ mb_676) (fun _ h9 => h9) rfl d_Model_reduce_27 ?_
          refine lv_iconst (v := 1) hx hb d_Model_reduce_30 (by decide) ?_
          refine lv_isub hx hb d_Model_reduce_31 ?_
          refine va_put (D := (dC, dI)) (ci := 8) (v := .int (xo - 1)) (ty := .int) (C := "PermitRulesModel") (T := T_Model) (N := 40) hx hb htb in_Model ty_Model to_Model nm_Model hown hK hP hD hS 0 rfl rfl 23 (by decide) (htb _ mb_676) (fun _ h9 => h9) rfl (by decide +kernel) rfl rfl (Nat.le_of_ble_eq_true rfl) d_Model_reduce_32 (fun H locs hP hD hS => ?_)
          have hP : va_P (dC, dI) vwCl [(oM, .inr (8, [.int th, .ref mT, .int ml, .int ma, .int mk, .int mp, .long mv, .int mw, .ref mN, .ref mD, .ref mF, .ref mS, .ref mL, .ref mR, .ref mE, .ref mK, .ref mV, .int dr, .int dc, .int xs_, .int ru, .int cl, .ref mO, .int (xo - 1), .int fc, .ref mA, .ref mB, .ref mU, .ref mW, .int pi, .int wh, .long ms, .int aq, .int da, .ref mX, .ref mY, .long lu, .long ld, .long qu, .long qd])), (mK, .inl (cI, 480, .inl xk)), (mV, .inl (cJ, 480, .inr (.inl xv))), (mO, .inl (cI, 130, .inl op))] H := hP
          have hD : va_D A [(oM, .inr (8, [.int th, .ref mT, .int ml, .int ma, .int mk, .int mp, .long mv, .int mw, .ref mN, .ref mD, .ref mF, .ref mS, .ref mL, .ref mR, .ref mE, .ref mK, .ref mV, .int dr, .int dc, .int xs_, .int ru, .int cl, .ref mO, .int (xo - 1), .int fc, .ref mA, .ref mB, .ref mU, .ref mW, .int pi, .int wh, .long ms, .int aq, .int da, .ref mX, .ref mY, .long lu, .long ld, .long qu, .long qd])), (mK, .inl (cI, 480, .inl xk)), (mV, .inl (cJ, 480, .inr (.inl xv))), (mO, .inl (cI, 130, .inl op))] := hD
          refine lv_aload_n hx hb d_Model_reduce_35 rfl (lv_at hl 0 rfl) ?_
          refine lv_aload_n hx hb d_Model_reduce_36 rfl (lv_at hl 0 rfl) ?_
          refine va_get (D := (dC, dI)) (ci := 8) (v := .ref mO) (C := "PermitRulesModel") (T := T_Model) (N := 40) hx hb htb in_Model hown hK hP 0 rfl rfl 22 (by decide) (htb _ mb_675) (fun _ h9 => h9) rfl d_Model_reduce_37 ?_
          refine lv_aload_n hx hb d_Model_reduce_40 rfl (lv_at hl 0 rfl) ?_
          refine va_get (D := (dC, dI)) (ci := 8) (v := .int (xo - 1)) (C := "PermitRulesModel") (T := T_Model) (N := 40) hx hb htb in_Model hown hK hP 0 rfl rfl 23 (by decide) (htb _ mb_676) (fun _ h9 => h9) rfl d_Model_reduce_41 ?_
          refine va_iald hx hb hK hP 3 1 rfl rfl (ib_in (oi_subE (Eq.refl xo.toInt) (show (1 : Int32).toInt = 1 by decide) (by omega) (by omega)) (by omega) (by omega)) d_Model_reduce_44 ?_
          refine lv_lconst (v := 0) hx hb d_Model_reduce_45 (by decide) ?_
          have hPc := hP.sub (ws' := [(oM, .inr (8, [.int th, .ref mT, .int ml, .int ma, .int mk, .int mp, .long mv, .int mw, .ref mN, .ref mD, .ref mF, .ref mS, .ref mL, .ref mR, .ref mE, .ref mK, .ref mV, .int dr, .int dc, .int xs_, .int ru, .int cl, .ref mO, .int (xo - 1), .int fc, .ref mA, .ref mB, .ref mU, .ref mW, .int pi, .int wh, .long ms, .int aq, .int da, .ref mX, .ref mY, .long lu, .long ld, .long qu, .long qd])), (mK, .inl (cI, 480, .inl xk)), (mV, .inl (cJ, 480, .inr (.inl xv)))]) [0, 1, 2] rfl
          have hDc := hD.sub (ws' := [(oM, .inr (8, [.int th, .ref mT, .int ml, .int ma, .int mk, .int mp, .long mv, .int mw, .ref mN, .ref mD, .ref mF, .ref mS, .ref mL, .ref mR, .ref mE, .ref mK, .ref mV, .int dr, .int dc, .int xs_, .int ru, .int cl, .ref mO, .int (xo - 1), .int fc, .ref mA, .ref mB, .ref mU, .ref mW, .int pi, .int wh, .long ms, .int aq, .int da, .ref mX, .ref mY, .long lu, .long ld, .long qu, .long qd])), (mK, .inl (cI, 480, .inl xk)), (mV, .inl (cJ, 480, .inr (.inl xv)))]) [0, 1, 2] (by decide) rfl
          have hFc := va_free (wc := [(oM, .inr (8, [.int th, .ref mT, .int ml, .int ma, .int mk, .int mp, .long mv, .int mw, .ref mN, .ref mD, .ref mF, .ref mS, .ref mL, .ref mR, .ref mE, .ref mK, .ref mV, .int dr, .int dc, .int xs_, .int ru, .int cl, .ref mO, .int (xo - 1), .int fc, .ref mA, .ref mB, .ref mU, .ref mW, .int pi, .int wh, .long ms, .int aq, .int da, .ref mX, .ref mY, .long lu, .long ld, .long qu, .long qd])), (mK, .inl (cI, 480, .inl xk)), (mV, .inl (cJ, 480, .inr (.inl xv)))]) hD hS hA [0, 1, 2] rfl
          refine va_callv (va_runV (As := [.int (op (xo - 1).toNatClampNeg), .long 0]) (rest := []) ⟨hx, hb, hml, hown, htb⟩ (c_Model_step l dC dI cB cI cJ oM mT mN mD mF mS mL mR mE mK mV mO mA mB mU mW mX mY _ (op (xo - 1).toNatClampNeg) 0 th ml ma mk mp mv mw dr dc xs_ ru cl (xo - 1) fc pi wh ms aq da lu ld qu qd xk xv (by omega) (by omega)) ⟨callB_of 2 htb (gb_all mb_832) rfl rfl rfl (htb _ mb_9) (htb _ mb_829) (by decide +kernel) ⟨Nat.le_of_ble_eq_true rfl, Nat.le_of_ble_eq_true rfl⟩, htb _ mb_831, htb _ mp_23⟩ ⟨kb_blind, va_recv hK hPc (ci := 8) (q0 := 0) rfl rfl, kb_at hPc hDc hKx⟩ rfl rfl hl.1 rfl (lv_room (Nat.le_of_ble_eq_true rfl)) d_Model_reduce_46 ⟨Nat.le_of_ble_eq_true rfl, Nat.le_of_ble_eq_true rfl⟩) hS (fun q _ h => hFc q h) hFc (fun z_4 t H1 locs ht hvm hw hB hz1 hk1 hS => ?_)
          have hz_4 := hw
          have hF := hF.trans (lt_e hz_4)
          obtain ⟨hP1, hD1⟩ := hB
          rw [ht] at hP1
          obtain ⟨hP, hD⟩ := va_join (wr := [(mO, .inl (cI, 130, .inl op))]) (w1 := [(oM, .inr (8, [.int th, .ref mT, .int ml, .int ma, .int mk, .int mp, .long mv, .int mw, .ref mN, .ref mD, .ref mF, .ref mS, .ref mL, .ref mR, .ref mE, .ref mK, .ref mV, .int dr, .int dc, .int z_4.1, .int ru, .int cl, .ref mO, .int (xo - 1), .int fc, .ref mA, .ref mB, .ref mU, .ref mW, .int pi, .int wh, .long ms, .int aq, .int da, .ref mX, .ref mY, .long lu, .long ld, .long qu, .long qd])), (mK, .inl (cI, 480, .inl z_4.2.1)), (mV, .inl (cJ, 480, .inr (.inl z_4.2.2)))]) hP hD [0, 1, 2] [3] rfl rfl (by decide) (by decide) hk1 hFc hP1 hD1
          generalize H1 = H at hP hS ⊢
          have hP : va_P (dC, dI) vwCl [(mO, .inl (cI, 130, .inl op)), (oM, .inr (8, [.int th, .ref mT, .int ml, .int ma, .int mk, .int mp, .long mv, .int mw, .ref mN, .ref mD, .ref mF, .ref mS, .ref mL, .ref mR, .ref mE, .ref mK, .ref mV, .int dr, .int dc, .int z_4.1, .int ru, .int cl, .ref mO, .int (xo - 1), .int fc, .ref mA, .ref mB, .ref mU, .ref mW, .int pi, .int wh, .long ms, .int aq, .int da, .ref mX, .ref mY, .long lu, .long ld, .long qu, .long qd])), (mK, .inl (cI, 480, .inl z_4.2.1)), (mV, .inl (cJ, 480, .inr (.inl z_4.2.2)))] H := hP
          have hD : va_D A [(mO, .inl (cI, 130, .inl op)), (oM, .inr (8, [.int th, .ref mT, .int ml, .int ma, .int mk, .int mp, .long mv, .int mw, .ref mN, .ref mD, .ref mF, .ref mS, .ref mL, .ref mR, .ref mE, .ref mK, .ref mV, .int dr, .int dc, .int z_4.1, .int ru, .int cl, .ref mO, .int (xo - 1), .int fc, .ref mA, .ref mB, .ref mU, .ref mW, .int pi, .int wh, .long ms, .int aq, .int da, .ref mX, .ref mY, .long lu, .long ld, .long qu, .long qd])), (mK, .inl (cI, 480, .inl z_4.2.1)), (mV, .inl (cJ, 480, .inr (.inl z_4.2.2)))] := hD
          refine lv_goto (tgt := 0) hx hb d_Model_reduce_49 (by decide) ?_
          have e0 := ms_ds hz_4 (by omega) (by omega)
          exact ih z_4.1 (xo - 1) z_4.2.1 z_4.2.2 (by have q1 := (oi_subE (Eq.refl xo.toInt) (show (1 : Int32).toInt = 1 by decide) (by omega) (by omega)); omega) (by have q1 := (oi_subE (Eq.refl xo.toInt) (show (1 : Int32).toInt = 1 by decide) (by omega) (by omega)); omega) (by have q1 := (oi_subE (Eq.refl xo.toInt) (show (1 : Int32).toInt = 1 by decide) (by omega) (by omega)); omega) (by have q1 := (oi_subE (Eq.refl xo.toInt) (show (1 : Int32).toInt = 1 by decide) (by omega) (by omega)); omega) (by have q1 := (oi_subE (Eq.refl xo.toInt) (show (1 : Int32).toInt = 1 by decide) (by omega) (by omega)); omega) hF _ _ _ (hP.sub [1, 2, 3, 0] rfl) (hD.sub [1, 2, 3, 0] (by decide) rfl) hS (lv_sub hl [0, 1] rfl)
  exact lp0 (os.toInt.toNat + 1) ds os sk sv (by omega) (by omega) (by omega) (by omega) (by omega) hF _ _ _ (hP.sub [0, 1, 2, 3] rfl) (hD.sub [0, 1, 2, 3] (by decide) rfl) hS (lv_sub hl [0, 1] rfl)
def f_Model_isTaken_L5 (nm : Int64) (dr : Int32) (nn : (Nat → Int64)) : Nat → Int32 → Int32 → Int32
  | 0, _, _ => 0
  | n + 1, r, is => (if dr ≤ r then is else (if is = 0 then (if (lg_cmp (nn r.toNatClampNeg) nm) = 0 then (f_Model_isTaken_L5 nm dr nn n (r + 1) 1) else (f_Model_isTaken_L5 nm dr nn n (r + 1) 0)) else (f_Model_isTaken_L5 nm dr nn n (r + 1) 1)))
theorem f_Model_isTaken_L5_s (nm : Int64) (dr : Int32) (nn : (Nat → Int64)) (n : Nat) (r : Int32) (is : Int32) : f_Model_isTaken_L5 nm dr nn (n + 1) r is = (if dr ≤ r then is else (if is = 0 then (if (lg_cmp (nn r.toNatClampNeg) nm) = 0 then (f_Model_isTaken_L5 nm dr nn n (r + 1) 1) else (f_Model_isTaken_L5 nm dr nn n (r + 1) 0)) else (f_Model_isTaken_L5 nm dr nn n (r + 1) 1))) := rfl
def f_Model_isTaken (nm : Int64) (dr : Int32) (nn : (Nat → Int64)) : Int32 := (f_Model_isTaken_L5 nm dr nn (dr.toInt.toNat + 1) 0 0)
abbrev q_Model_isTaken (dC : Nat → ClassId) (dI : Nat → Nat → Nat) (cB cI cJ : ClassId) (oM mT mN mD mF mS mL mR mE mK mV mO mA mB mU mW mX mY : Nat) (nm : Int64) (th : Int32) (ml : Int32) (ma : Int32) (mk : Int32) (mp : Int32) (mv : Int64) (mw : Int32) (dr : Int32) (dc : Int32) (ds : Int32) (ru : Int32) (cl : Int32) (os : Int32) (fc : Int32) (pi : Int32) (wh : Int32) (ms : Int64) (aq : Int32) (da : Int32) (lu : Int64) (ld : Int64) (qu : Int64) (qd : Int64) (nn : (Nat → Int64)) (A : Nat → Prop) : Array Value → State → Outcome → State → Prop := va_Qi (fun (r : Int32) (u : Unit) => r = f_Model_isTaken nm dr nn) (fun u t => va_P (dC, dI) vwCl [(oM, .inr (8, [.int th, .ref mT, .int ml, .int ma, .int mk, .int mp, .long mv, .int mw, .ref mN, .ref mD, .ref mF, .ref mS, .ref mL, .ref mR, .ref mE, .ref mK, .ref mV, .int dr, .int dc, .int ds, .int ru, .int cl, .ref mO, .int os, .int fc, .ref mA, .ref mB, .ref mU, .ref mW, .int pi, .int wh, .long ms, .int aq, .int da, .ref mX, .ref mY, .long lu, .long ld, .long qu, .long qd])), (mN, .inl (cJ, 24, .inr (.inl nn)))] t.heap ∧ va_D A [(oM, .inr (8, [.int th, .ref mT, .int ml, .int ma, .int mk, .int mp, .long mv, .int mw, .ref mN, .ref mD, .ref mF, .ref mS, .ref mL, .ref mR, .ref mE, .ref mK, .ref mV, .int dr, .int dc, .int ds, .int ru, .int cl, .ref mO, .int os, .int fc, .ref mA, .ref mB, .ref mU, .ref mW, .int pi, .int wh, .long ms, .int aq, .int da, .ref mX, .ref mY, .long lu, .long ld, .long qu, .long qd])), (mN, .inl (cJ, 24, .inr (.inl nn)))]) A
set_option maxHeartbeats 4000000 in
set_option maxRecDepth 100000 in
theorem c_Model_isTaken (l : Launch) (dC : Nat → ClassId) (dI : Nat → Nat → Nat) (cB cI cJ : ClassId) (oM mT mN mD mF mS mL mR mE mK mV mO mA mB mU mW mX mY : Nat) (sz : Nat) (nm : Int64) (th : Int32) (ml : Int32) (ma : Int32) (mk : Int32) (mp : Int32) (mv : Int64) (mw : Int32) (dr : Int32) (dc : Int32) (ds : Int32) (ru : Int32) (cl : Int32) (os : Int32) (fc : Int32) (pi : Int32) (wh : Int32) (ms : Int64) (aq : Int32) (da : Int32) (lu : Int64) (ld : Int64) (qu : Int64) (qd : Int64) (nn : (Nat → Int64)) (h0 : dr.toInt ≤ 24) : Met l y_Model_isTaken (cw_Model_isTaken :: bgw) { frames := 0, cells := 0, slots := 0, locals := 0 } (va_Pc [.ref oM, .long nm] (kb_B dC dI cB cI cJ [(oM, .inr (8, [.int th, .ref mT, .int ml, .int ma, .int mk, .int mp, .long mv, .int mw, .ref mN, .ref mD, .ref mF, .ref mS, .ref mL, .ref mR, .ref mE, .ref mK, .ref mV, .int dr, .int dc, .int ds, .int ru, .int cl, .ref mO, .int os, .int fc, .ref mA, .ref mB, .ref mU, .ref mW, .int pi, .int wh, .long ms, .int aq, .int da, .ref mX, .ref mY, .long lu, .long ld, .long qu, .long qd])), (mN, .inl (cJ, 24, .inr (.inl nn)))] sz)) (q_Model_isTaken dC dI cB cI cJ oM mT mN mD mF mS mL mR mE mK mV mO mA mB mU mW mX mY nm th ml ma mk mp mv mw dr dc ds ru cl os fc pi wh ms aq da lu ld qu qd nn (va_A [(oM, .inr (8, [.int th, .ref mT, .int ml, .int ma, .int mk, .int mp, .long mv, .int mw, .ref mN, .ref mD, .ref mF, .ref mS, .ref mL, .ref mR, .ref mE, .ref mK, .ref mV, .int dr, .int dc, .int ds, .int ru, .int cl, .ref mO, .int os, .int fc, .ref mA, .ref mB, .ref mU, .ref mW, .int pi, .int wh, .long ms, .int aq, .int da, .ref mX, .ref mY, .long lu, .long ld, .long qu, .long qd])), (mN, .inl (cJ, 24, .inr (.inl nn)))] sz)) 0 0 (va_A [(oM, .inr (8, [.int th, .ref mT, .int ml, .int ma, .int mk, .int mp, .long mv, .int mw, .ref mN, .ref mD, .ref mF, .ref mS, .ref mL, .ref mR, .ref mE, .ref mK, .ref mV, .int dr, .int dc, .int ds, .int ru, .int cl, .ref mO, .int os, .int fc, .ref mA, .ref mB, .ref mU, .ref mW, .int pi, .int wh, .long ms, .int aq, .int da, .ref mX, .ref mY, .long lu, .long ld, .long qu, .long qd])), (mN, .inl (cJ, 24, .inr (.inl nn)))] sz) := by
  refine Met.ofW (cc := prog_10_method_16_code) (maxL := 5) (ret := (some .boolean)) (by decide) rfl ?_
  intro p e s m args below meth c s₁ B hml hv
  obtain ⟨rfl, hsz, hP, hKx, hD0⟩ := hv
  have hx := B.exec
  have hb := B.bytes
  have hr := B.returns
  have hts := atoms_spec (ws := (cw_Model_isTaken :: bgw)) B.pre
  have hown : s.vm.findClass "PermitRulesModel" = some m.cls := findClass_of_methodNamed B.named
  have hlocks := B.notSynchronized
  have htb := fun (w : Cond) (h : w ∈ bgw) => hts w (List.mem_cons_of_mem _ h)
  have hK := hKx.1
  subst hsz
  have hD := hD0.self (sz := s.heap.size)
  generalize hAe : va_A [(oM, .inr (8, [.int th, .ref mT, .int ml, .int ma, .int mk, .int mp, .long mv, .int mw, .ref mN, .ref mD, .ref mF, .ref mS, .ref mL, .ref mR, .ref mE, .ref mK, .ref mV, .int dr, .int dc, .int ds, .int ru, .int cl, .ref mO, .int os, .int fc, .ref mA, .ref mB, .ref mU, .ref mW, .int pi, .int wh, .long ms, .int aq, .int da, .ref mX, .ref mY, .long lu, .long ld, .long qu, .long qd])), (mN, .inl (cJ, 24, .inr (.inl nn)))] s.heap.size = A at hD ⊢
  have hA : ∀ q : Nat, s.heap.size ≤ q → A q := fun q h => by rw [← hAe]; exact Or.inr h
  have hS : va_S A s.heap s.heap [] := va_S.rf
  have hl := lv_entry ([.ref oM, .long nm]) (n := 5) (Nat.le_of_ble_eq_true rfl)
  rw [lg_entry_eq]
  generalize (lg_sl ([.ref oM, .long nm]) ++ List.replicate (5 - (lg_sl ([.ref oM, .long nm])).length) Slot.unset).toArray = ls at hl ⊢
  have hl : lv_has ls 5 [(0, .ref oM), (1, .long nm)] := hl
  have hP : va_P (dC, dI) vwCl [(oM, .inr (8, [.int th, .ref mT, .int ml, .int ma, .int mk, .int mp, .long mv, .int mw, .ref mN, .ref mD, .ref mF, .ref mS, .ref mL, .ref mR, .ref mE, .ref mK, .ref mV, .int dr, .int dc, .int ds, .int ru, .int cl, .ref mO, .int os, .int fc, .ref mA, .ref mB, .ref mU, .ref mW, .int pi, .int wh, .long ms, .int aq, .int da, .ref mX, .ref mY, .long lu, .long ld, .long qu, .long qd])), (mN, .inl (cJ, 24, .inr (.inl nn)))] s.heap := hP
  have hF : f_Model_isTaken nm dr nn = (f_Model_isTaken_L5 nm dr nn (dr.toInt.toNat + 1) 0 0) := rfl
  have lp5 : ∀ (n : Nat) (r : Int32) (is : Int32), 0 ≤ r.toInt → (is = 0 ∨ is = 1) → (dr.toInt - r.toInt).toNat < n → f_Model_isTaken nm dr nn = f_Model_isTaken_L5 nm dr nn n r is → ∀ (H : Heap) (locs : List Loc) (ls : Array Slot), va_P (dC, dI) vwCl [(oM, .inr (8, [.int th, .ref mT, .int ml, .int ma, .int mk, .int mp, .long mv, .int mw, .ref mN, .ref mD, .ref mF, .ref mS, .ref mL, .ref mR, .ref mE, .ref mK, .ref mV, .int dr, .int dc, .int ds, .int ru, .int cl, .ref mO, .int os, .int fc, .ref mA, .ref mB, .ref mU, .ref mW, .int pi, .int wh, .long ms, .int aq, .int da, .ref mX, .ref mY, .long lu, .long ld, .long qu, .long qd])), (mN, .inl (cJ, 24, .inr (.inl nn)))] H → va_D A [(oM, .inr (8, [.int th, .ref mT, .int ml, .int ma, .int mk, .int mp, .long mv, .int mw, .ref mN, .ref mD, .ref mF, .ref mS, .ref mL, .ref mR, .ref mE, .ref mK, .ref mV, .int dr, .int dc, .int ds, .int ru, .int cl, .ref mO, .int os, .int fc, .ref mA, .ref mB, .ref mU, .ref mW, .int pi, .int wh, .long ms, .int aq, .int da, .ref mX, .ref mY, .long lu, .long ld, .long qu, .long qd])), (mN, .inl (cJ, 24, .inr (.inl nn)))] → va_S A s.heap H locs → lv_has ls 5 [(4, .int r), (3, .int is), (0, .ref oM), (1, .long nm)] → W p l e (headSpec (cw_Model_isTaken :: bgw) { frames := 0, cells := 0, slots := 0, locals := 0 }).room s m ([.ref oM, .long nm] : List Value).toArray below meth c H locs 0 0 (MQ below (q_Model_isTaken dC dI cB cI cJ oM mT mN mD mF mS mL mR mE mK mV mO mA mB mU mW mX mY nm th ml ma mk mp mv mw dr dc ds ru cl os fc pi wh ms aq da lu ld qu qd nn A) ([.ref oM, .long nm] : List Value).toArray s 0 0 A) (F0 m 5 ls []) := by
    intro n
    induction n with
    | zero => intro r is i0 ib hn; exact absurd hn (Nat.not_lt_zero _)
    | succ n ih =>
      intro r is i0 ib hn hF H locs ls hP hD hS hl
      have hF := hF.trans (f_Model_isTaken_L5_s nm dr nn n r is)
      refine lv_iload hx hb d_Model_isTaken_5 (lv_at hl 0 rfl) ?_
      refine lv_aload_n hx hb d_Model_isTaken_7 rfl (lv_at hl 2 rfl) ?_
      refine va_get (D := (dC, dI)) (ci := 8) (v := .int dr) (C := "PermitRulesModel") (T := T_Model) (N := 40) hx hb htb in_Model hown hK hP 0 rfl rfl 17 (by decide) (htb _ mb_670) (fun _ h9 => h9) rfl d_Model_isTaken_8 ?_
      refine lv_icmp_ge (tgt := 42) hx hb d_Model_isTaken_11 (by decide) (fun c_1 => ?_) (fun c_1 => ?_)
      · have hF := hF.trans (if_pos c_1)
        have tc_1 := ti_le (Eq.refl dr.toInt) (Eq.refl r.toInt) c_1
        refine lv_iload_n hx hb d_Model_isTaken_42 rfl (lv_at hl 1 rfl) ?_
        have hP9 := hP.sub (ws' := [(oM, .inr (8, [.int th, .ref mT, .int ml, .int ma, .int mk, .int mp, .long mv, .int mw, .ref mN, .ref mD, .ref mF, .ref mS, .ref mL, .ref mR, .ref mE, .ref mK, .ref mV, .int dr, .int dc, .int ds, .int ru, .int cl, .ref mO, .int os, .int fc, .ref mA, .ref mB, .ref mU, .ref mW, .int pi, .int wh, .long ms, .int aq, .int da, .ref mX, .ref mY, .long lu, .long ld, .long qu, .long qd])), (mN, .inl (cJ, 24, .inr (.inl nn)))]) [0, 1] rfl
        have hD9 := hD.sub (ws' := [(oM, .inr (8, [.int th, .ref mT, .int ml, .int ma, .int mk, .int mp, .long mv, .int mw, .ref mN, .ref mD, .ref mF, .ref mS, .ref mL, .ref mR, .ref mE, .ref mK, .ref mV, .int dr, .int dc, .int ds, .int ru, .int cl, .ref mO, .int os, .int fc, .ref mA, .ref mB, .ref mU, .ref mW, .int pi, .int wh, .long ms, .int aq, .int da, .ref mX, .ref mY, .long lu, .long ld, .long qu, .long qd])), (mN, .inl (cJ, 24, .inr (.inl nn)))]) [0, 1] (by decide) rfl
        exact W.zret (v := is) hx hb hr (by rcases ib with h | h <;> rw [h] <;> rfl) (fun t ht hW => ⟨⟨is, (), rfl, by rw [hF], by rw [ht]; exact hP9, hD9⟩, hS.F ht⟩) hS.2.2 d_Model_isTaken_43
      · have hF := hF.trans (if_neg c_1)
        have tc_1 := ti_nle (Eq.refl dr.toInt) (Eq.refl r.toInt) c_1
        refine lv_iload_n hx hb d_Model_isTaken_14 rfl (lv_at hl 1 rfl) ?_
        refine lv_if_ne (tgt := 30) hx hb d_Model_isTaken_15 (by decide) (fun c_2 => ?_) (fun c_2 => ?_)
        · have hF := hF.trans (if_neg c_2)
          have tc_2 := ti_ne (Eq.refl is.toInt) (show (0 : Int32).toInt = 0 by decide) c_2
          refine lv_iconst (v := 1) hx hb d_Model_isTaken_30 (by decide) ?_
          refine lv_goto (tgt := 35) hx hb d_Model_isTaken_31 (by decide) ?_
          refine lv_istore_n (lv' := [(3, .int 1), (4, .int r), (0, .ref oM), (1, .long nm)]) hx hb d_Model_isTaken_35 rfl hl (by decide) rfl (fun ls hl => ?_)
          refine lv_iinc (v := r + 1) (lv' := [(4, .int (r + 1)), (3, .int 1), (0, .ref oM), (1, .long nm)]) hx hb d_Model_isTaken_36 hl (k := 1) rfl (by first | rfl | decide) (by decide) rfl (fun ls hl => ?_)
          refine lv_goto (tgt := 5) hx hb d_Model_isTaken_39 (by decide) ?_
          exact ih (r + 1) 1 (by have q0 := (oi_addE (Eq.refl r.toInt) (show (1 : Int32).toInt = 1 by decide) (by omega) (by omega)); omega) (Or.inr rfl) (by have q0 := (oi_addE (Eq.refl r.toInt) (show (1 : Int32).toInt = 1 by decide) (by omega) (by omega)); omega) hF _ _ _ (hP.sub [0, 1] rfl) (hD.sub [0, 1] (by decide) rfl) hS (lv_sub hl [0, 1, 2, 3] rfl)
        · have hF := hF.trans (if_pos c_2)
          have tc_2 := ti_eq (Eq.refl is.toInt) (show (0 : Int32).toInt = 0 by decide) c_2
          refine lv_aload_n hx hb d_Model_isTaken_18 rfl (lv_at hl 2 rfl) ?_
          refine va_get (D := (dC, dI)) (ci := 8) (v := .ref mN) (C := "PermitRulesModel") (T := T_Model) (N := 40) hx hb htb in_Model hown hK hP 0 rfl rfl 8 (by decide) (htb _ mb_661) (fun _ h9 => h9) rfl d_Model_isTaken_19 ?_
          refine lv_iload hx hb d_Model_isTaken_22 (lv_at hl 0 rfl) ?_
          refine va_lald hx hb hK hP 1 2 rfl rfl (ib_in (Eq.refl r.toInt) (by omega) (by omega)) d_Model_isTaken_24 ?_
          refine lv_lload_n hx hb d_Model_isTaken_25 rfl (lv_at hl 3 rfl) ?_
          refine W.lcmp hx hb d_Model_isTaken_26 ?_
          refine lv_if_ne (tgt := 34) hx hb d_Model_isTaken_27 (by decide) (fun c_3 => ?_) (fun c_3 => ?_)
          · have hF := hF.trans (if_neg c_3)
            refine lv_iconst (v := 0) hx hb d_Model_isTaken_34 (by decide) ?_
            refine lv_istore_n (lv' := [(3, .int 0), (4, .int r), (0, .ref oM), (1, .long nm)]) hx hb d_Model_isTaken_35 rfl hl (by decide) rfl (fun ls hl => ?_)
            refine lv_iinc (v := r + 1) (lv' := [(4, .int (r + 1)), (3, .int 0), (0, .ref oM), (1, .long nm)]) hx hb d_Model_isTaken_36 hl (k := 1) rfl (by first | rfl | decide) (by decide) rfl (fun ls hl => ?_)
            refine lv_goto (tgt := 5) hx hb d_Model_isTaken_39 (by decide) ?_
            exact ih (r + 1) 0 (by have q0 := (oi_addE (Eq.refl r.toInt) (show (1 : Int32).toInt = 1 by decide) (by omega) (by omega)); omega) (Or.inl rfl) (by have q0 := (oi_addE (Eq.refl r.toInt) (show (1 : Int32).toInt = 1 by decide) (by omega) (by omega)); omega) hF _ _ _ (hP.sub [0, 1] rfl) (hD.sub [0, 1] (by decide) rfl) hS (lv_sub hl [0, 1, 2, 3] rfl)
          · have hF := hF.trans (if_pos c_3)
            refine lv_iconst (v := 1) hx hb d_Model_isTaken_30 (by decide) ?_
            refine lv_goto (tgt := 35) hx hb d_Model_isTaken_31 (by decide) ?_
            refine lv_istore_n (lv' := [(3, .int 1), (4, .int r), (0, .ref oM), (1, .long nm)]) hx hb d_Model_isTaken_35 rfl hl (by decide) rfl (fun ls hl => ?_)
            refine lv_iinc (v := r + 1) (lv' := [(4, .int (r + 1)), (3, .int 1), (0, .ref oM), (1, .long nm)]) hx hb d_Model_isTaken_36 hl (k := 1) rfl (by first | rfl | decide) (by decide) rfl (fun ls hl => ?_)
            refine lv_goto (tgt := 5) hx hb d_Model_isTaken_39 (by decide) ?_
            exact ih (r + 1) 1 (by have q0 := (oi_addE (Eq.refl r.toInt) (show (1 : Int32).toInt = 1 by decide) (by omega) (by omega)); omega) (Or.inr rfl) (by have q0 := (oi_addE (Eq.refl r.toInt) (show (1 : Int32).toInt = 1 by decide) (by omega) (by omega)); omega) hF _ _ _ (hP.sub [0, 1] rfl) (hD.sub [0, 1] (by decide) rfl) hS (lv_sub hl [0, 1, 2, 3] rfl)
  refine lv_iconst (v := 0) hx hb d_Model_isTaken_0 (by decide) ?_
  refine lv_istore_n (lv' := [(3, .int 0), (0, .ref oM), (1, .long nm)]) hx hb d_Model_isTaken_1 rfl hl (by decide) rfl (fun ls hl => ?_)
  refine lv_iconst (v := 0) hx hb d_Model_isTaken_2 (by decide) ?_
  refine lv_istore (lv' := [(4, .int 0), (3, .int 0), (0, .ref oM), (1, .long nm)]) hx hb d_Model_isTaken_3 hl (by decide) rfl (fun ls hl => ?_)
  exact lp5 (dr.toInt.toNat + 1) 0 0 (by decide) (Or.inl rfl) (oi_r dr) hF _ _ _ (hP.sub [0, 1] rfl) (hD.sub [0, 1] (by decide) rfl) hS (lv_sub hl [0, 1, 2, 3] rfl)
def f_Model_next_L176 (ml : Int32) (ma : Int32) (mv : Int64) (mw : Int32) (mt : (Nat → Int32)) : Nat → Int32 → Int32 → Int64 → Int32 → Int32 → Int32 × Int32 × Int32 × Int64 × Int32
  | 0, _, _, _, _, _ => (0, 0, 0, 0, 0)
  | n + 1, n_, xa, xv, xp, xw => (lt_ (f_Model_isLetter xa ml mt) fun z_33 => (if z_33 = 0 then (if n_ ≤ 8 then (if xw ≤ 120 then (xa, 2, xp, xv, xw) else (xa, 3, xp, xv, xw)) else (if xw ≤ 120 then (xa, 3, xp, xv, xw) else (xa, 3, xp, xv, xw))) else (if 8 ≤ n_ then (f_Model_next_L176 ml ma mv mw mt n (n_ + 1) (xa + 1) xv xp xw) else (lt_ (f_Model_character xa ml mt) fun z_39 => (f_Model_next_L176 ml ma mv mw mt n (n_ + 1) (xa + 1) ((xv * 256) + z_39.toInt64) xp xw)))))
theorem f_Model_next_L176_s (ml : Int32) (ma : Int32) (mv : Int64) (mw : Int32) (mt : (Nat → Int32)) (n : Nat) (n_ : Int32) (xa : Int32) (xv : Int64) (xp : Int32) (xw : Int32) : f_Model_next_L176 ml ma mv mw mt (n + 1) n_ xa xv xp xw = (lt_ (f_Model_isLetter xa ml mt) fun z_33 => (if z_33 = 0 then (if n_ ≤ 8 then (if xw ≤ 120 then (xa, 2, xp, xv, xw) else (xa, 3, xp, xv, xw)) else (if xw ≤ 120 then (xa, 3, xp, xv, xw) else (xa, 3, xp, xv, xw))) else (if 8 ≤ n_ then (f_Model_next_L176 ml ma mv mw mt n (n_ + 1) (xa + 1) xv xp xw) else (lt_ (f_Model_character xa ml mt) fun z_39 => (f_Model_next_L176 ml ma mv mw mt n (n_ + 1) (xa + 1) ((xv * 256) + z_39.toInt64) xp xw))))) := rfl
def f_Model_next_L81 (ml : Int32) (ma : Int32) (mv : Int64) (mw : Int32) (mt : (Nat → Int32)) : Nat → Int32 → Int32 → Int64 → Int32 → Int32 → Int32 × Int32 × Int32 × Int64 × Int32
  | 0, _, _, _, _, _ => (0, 0, 0, 0, 0)
  | n + 1, n_, xa, xv, xp, xw => (lt_ (f_Model_isDigit xa ml mt) fun z_40 => (if z_40 = 0 then (if n_ ≤ 9 then (if xw ≤ 120 then (xa, 1, xp, xv, xw) else (xa, 3, xp, xv, xw)) else (if xw ≤ 120 then (xa, 3, xp, xv, xw) else (xa, 3, xp, xv, xw))) else (if 9 ≤ n_ then (f_Model_next_L81 ml ma mv mw mt n (n_ + 1) (xa + 1) xv xp xw) else (lt_ (f_Model_character xa ml mt) fun z_46 => (f_Model_next_L81 ml ma mv mw mt n (n_ + 1) (xa + 1) (((10 * xv) + z_46.toInt64) - 48) xp xw)))))
theorem f_Model_next_L81_s (ml : Int32) (ma : Int32) (mv : Int64) (mw : Int32) (mt : (Nat → Int32)) (n : Nat) (n_ : Int32) (xa : Int32) (xv : Int64) (xp : Int32) (xw : Int32) : f_Model_next_L81 ml ma mv mw mt (n + 1) n_ xa xv xp xw = (lt_ (f_Model_isDigit xa ml mt) fun z_40 => (if z_40 = 0 then (if n_ ≤ 9 then (if xw ≤ 120 then (xa, 1, xp, xv, xw) else (xa, 3, xp, xv, xw)) else (if xw ≤ 120 then (xa, 3, xp, xv, xw) else (xa, 3, xp, xv, xw))) else (if 9 ≤ n_ then (f_Model_next_L81 ml ma mv mw mt n (n_ + 1) (xa + 1) xv xp xw) else (lt_ (f_Model_character xa ml mt) fun z_46 => (f_Model_next_L81 ml ma mv mw mt n (n_ + 1) (xa + 1) (((10 * xv) + z_46.toInt64) - 48) xp xw))))) := rfl
def f_Model_next_L0 (ml : Int32) (ma : Int32) (mv : Int64) (mw : Int32) (mt : (Nat → Int32)) : Nat → Int32 → Int32 × Int32 × Int32 × Int64 × Int32
  | 0, _ => (0, 0, 0, 0, 0)
  | n + 1, xa => (lt_ (f_Model_character xa ml mt) fun z_1 => (if z_1 = 32 then (f_Model_next_L0 ml ma mv mw mt n (xa + 1)) else (lt_ (f_Model_character xa ml mt) fun z_3 => (if 0 ≤ z_3 then (lt_ (f_Model_isDigit xa ml mt) fun z_5 => (if z_5 = 0 then (lt_ (f_Model_isLetter xa ml mt) fun z_7 => (if z_7 = 0 then (lt_ (f_Model_isSign z_3) fun z_9 => (if z_9 = 0 then (if z_3 = 60 then (lt_ (f_Model_character (xa + 1) ml mt) fun z_12 => (if z_12 = 61 then (if (mw + 1) ≤ 120 then ((xa + 1) + 1, z_3 + 256, xa, 0, mw + 1) else ((xa + 1) + 1, 3, xa, 0, mw + 1)) else (if (mw + 1) ≤ 120 then (xa + 1, 3, xa, 0, mw + 1) else (xa + 1, 3, xa, 0, mw + 1)))) else (if z_3 = 62 then (lt_ (f_Model_character (xa + 1) ml mt) fun z_18 => (if z_18 = 61 then (if (mw + 1) ≤ 120 then ((xa + 1) + 1, z_3 + 256, xa, 0, mw + 1) else ((xa + 1) + 1, 3, xa, 0, mw + 1)) else (if (mw + 1) ≤ 120 then (xa + 1, 3, xa, 0, mw + 1) else (xa + 1, 3, xa, 0, mw + 1)))) else (if (mw + 1) ≤ 120 then (xa + 1, 3, xa, 0, mw + 1) else (xa + 1, 3, xa, 0, mw + 1)))) else (if z_3 = 60 then (lt_ (f_Model_character (xa + 1) ml mt) fun z_23 => (if z_23 = 61 then (if (mw + 1) ≤ 120 then ((xa + 1) + 1, z_3 + 256, xa, 0, mw + 1) else ((xa + 1) + 1, 3, xa, 0, mw + 1)) else (if (mw + 1) ≤ 120 then (xa + 1, z_3, xa, 0, mw + 1) else (xa + 1, 3, xa, 0, mw + 1)))) else (if z_3 = 62 then (lt_ (f_Model_character (xa + 1) ml mt) fun z_29 => (if z_29 = 61 then (if (mw + 1) ≤ 120 then ((xa + 1) + 1, z_3 + 256, xa, 0, mw + 1) else ((xa + 1) + 1, 3, xa, 0, mw + 1)) else (if (mw + 1) ≤ 120 then (xa + 1, z_3, xa, 0, mw + 1) else (xa + 1, 3, xa, 0, mw + 1)))) else (if (mw + 1) ≤ 120 then (xa + 1, z_3, xa, 0, mw + 1) else (xa + 1, 3, xa, 0, mw + 1)))))) else (f_Model_next_L176 ml ma mv mw mt 801 0 xa 0 xa (mw + 1)))) else (f_Model_next_L81 ml ma mv mw mt 801 0 xa 0 xa (mw + 1)))) else (xa, 0, xa, mv, mw)))))
theorem f_Model_next_L0_s (ml : Int32) (ma : Int32) (mv : Int64) (mw : Int32) (mt : (Nat → Int32)) (n : Nat) (xa : Int32) : f_Model_next_L0 ml ma mv mw mt (n + 1) xa = (lt_ (f_Model_character xa ml mt) fun z_1 => (if z_1 = 32 then (f_Model_next_L0 ml ma mv mw mt n (xa + 1)) else (lt_ (f_Model_character xa ml mt) fun z_3 => (if 0 ≤ z_3 then (lt_ (f_Model_isDigit xa ml mt) fun z_5 => (if z_5 = 0 then (lt_ (f_Model_isLetter xa ml mt) fun z_7 => (if z_7 = 0 then (lt_ (f_Model_isSign z_3) fun z_9 => (if z_9 = 0 then (if z_3 = 60 then (lt_ (f_Model_character (xa + 1) ml mt) fun z_12 => (if z_12 = 61 then (if (mw + 1) ≤ 120 then ((xa + 1) + 1, z_3 + 256, xa, 0, mw + 1) else ((xa + 1) + 1, 3, xa, 0, mw + 1)) else (if (mw + 1) ≤ 120 then (xa + 1, 3, xa, 0, mw + 1) else (xa + 1, 3, xa, 0, mw + 1)))) else (if z_3 = 62 then (lt_ (f_Model_character (xa + 1) ml mt) fun z_18 => (if z_18 = 61 then (if (mw + 1) ≤ 120 then ((xa + 1) + 1, z_3 + 256, xa, 0, mw + 1) else ((xa + 1) + 1, 3, xa, 0, mw + 1)) else (if (mw + 1) ≤ 120 then (xa + 1, 3, xa, 0, mw + 1) else (xa + 1, 3, xa, 0, mw + 1)))) else (if (mw + 1) ≤ 120 then (xa + 1, 3, xa, 0, mw + 1) else (xa + 1, 3, xa, 0, mw + 1)))) else (if z_3 = 60 then (lt_ (f_Model_character (xa + 1) ml mt) fun z_23 => (if z_23 = 61 then (if (mw + 1) ≤ 120 then ((xa + 1) + 1, z_3 + 256, xa, 0, mw + 1) else ((xa + 1) + 1, 3, xa, 0, mw + 1)) else (if (mw + 1) ≤ 120 then (xa + 1, z_3, xa, 0, mw + 1) else (xa + 1, 3, xa, 0, mw + 1)))) else (if z_3 = 62 then (lt_ (f_Model_character (xa + 1) ml mt) fun z_29 => (if z_29 = 61 then (if (mw + 1) ≤ 120 then ((xa + 1) + 1, z_3 + 256, xa, 0, mw + 1) else ((xa + 1) + 1, 3, xa, 0, mw + 1)) else (if (mw + 1) ≤ 120 then (xa + 1, z_3, xa, 0, mw + 1) else (xa + 1, 3, xa, 0, mw + 1)))) else (if (mw + 1) ≤ 120 then (xa + 1, z_3, xa, 0, mw + 1) else (xa + 1, 3, xa, 0, mw + 1)))))) else (f_Model_next_L176 ml ma mv mw mt 801 0 xa 0 xa (mw + 1)))) else (f_Model_next_L81 ml ma mv mw mt 801 0 xa 0 xa (mw + 1)))) else (xa, 0, xa, mv, mw))))) := rfl
def f_Model_next (ml : Int32) (ma : Int32) (mv : Int64) (mw : Int32) (mt : (Nat → Int32)) : Int32 × Int32 × Int32 × Int64 × Int32 := (f_Model_next_L0 ml ma mv mw mt 801 ma)
abbrev q_Model_next (dC : Nat → ClassId) (dI : Nat → Nat → Nat) (cB cI cJ : ClassId) (oM mT mN mD mF mS mL mR mE mK mV mO mA mB mU mW mX mY : Nat) (th : Int32) (ml : Int32) (ma : Int32) (mk : Int32) (mp : Int32) (mv : Int64) (mw : Int32) (dr : Int32) (dc : Int32) (ds : Int32) (ru : Int32) (cl : Int32) (os : Int32) (fc : Int32) (pi : Int32) (wh : Int32) (ms : Int64) (aq : Int32) (da : Int32) (lu : Int64) (ld : Int64) (qu : Int64) (qd : Int64) (mt : (Nat → Int32)) (A : Nat → Prop) : Array Value → State → Outcome → State → Prop := va_Qv (fun u : Int32 × Int32 × Int32 × Int64 × Int32 => u = f_Model_next ml ma mv mw mt) (fun u t => va_P (dC, dI) vwCl [(oM, .inr (8, [.int th, .ref mT, .int ml, .int u.1, .int u.2.1, .int u.2.2.1, .long u.2.2.2.1, .int u.2.2.2.2, .ref mN, .ref mD, .ref mF, .ref mS, .ref mL, .ref mR, .ref mE, .ref mK, .ref mV, .int dr, .int dc, .int ds, .int ru, .int cl, .ref mO, .int os, .int fc, .ref mA, .ref mB, .ref mU, .ref mW, .int pi, .int wh, .long ms, .int aq, .int da, .ref mX, .ref mY, .long lu, .long ld, .long qu, .long qd])), (mT, .inl (cI, 800, .inl mt))] t.heap ∧ va_D A [(oM, .inr (8, [.int th, .ref mT, .int ml, .int u.1, .int u.2.1, .int u.2.2.1, .long u.2.2.2.1, .int u.2.2.2.2, .ref mN, .ref mD, .ref mF, .ref mS, .ref mL, .ref mR, .ref mE, .ref mK, .ref mV, .int dr, .int dc, .int ds, .int ru, .int cl, .ref mO, .int os, .int fc, .ref mA, .ref mB, .ref mU, .ref mW, .int pi, .int wh, .long ms, .int aq, .int da, .ref mX, .ref mY, .long lu, .long ld, .long qu, .long qd])), (mT, .inl (cI, 800, .inl mt))]) A
set_option maxHeartbeats 4000000 in
set_option maxRecDepth 100000 in
theorem c_Model_next (l : Launch) (dC : Nat → ClassId) (dI : Nat → Nat → Nat) (cB cI cJ : ClassId) (oM mT mN mD mF mS mL mR mE mK mV mO mA mB mU mW mX mY : Nat) (sz : Nat) (th : Int32) (ml : Int32) (ma : Int32) (mk : Int32) (mp : Int32) (mv : Int64) (mw : Int32) (dr : Int32) (dc : Int32) (ds : Int32) (ru : Int32) (cl : Int32) (os : Int32) (fc : Int32) (pi : Int32) (wh : Int32) (ms : Int64) (aq : Int32) (da : Int32) (lu : Int64) (ld : Int64) (qu : Int64) (qd : Int64) (mt : (Nat → Int32)) (h0 : 0 ≤ ma.toInt) (h1 : ma.toInt ≤ 800) (hL : ml.toInt ≤ 800) : Met l y_Model_next (cw_Model_next :: bgw) { frames := 2, cells := 0, slots := 0, locals := 46 } (va_Pc [.ref oM] (kb_B dC dI cB cI cJ [(oM, .inr (8, [.int th, .ref mT, .int ml, .int ma, .int mk, .int mp, .long mv, .int mw, .ref mN, .ref mD, .ref mF, .ref mS, .ref mL, .ref mR, .ref mE, .ref mK, .ref mV, .int dr, .int dc, .int ds, .int ru, .int cl, .ref mO, .int os, .int fc, .ref mA, .ref mB, .ref mU, .ref mW, .int pi, .int wh, .long ms, .int aq, .int da, .ref mX, .ref mY, .long lu, .long ld, .long qu, .long qd])), (mT, .inl (cI, 800, .inl mt))] sz)) (q_Model_next dC dI cB cI cJ oM mT mN mD mF mS mL mR mE mK mV mO mA mB mU mW mX mY th ml ma mk mp mv mw dr dc ds ru cl os fc pi wh ms aq da lu ld qu qd mt (va_A [(oM, .inr (8, [.int th, .ref mT, .int ml, .int ma, .int mk, .int mp, .long mv, .int mw, .ref mN, .ref mD, .ref mF, .ref mS, .ref mL, .ref mR, .ref mE, .ref mK, .ref mV, .int dr, .int dc, .int ds, .int ru, .int cl, .ref mO, .int os, .int fc, .ref mA, .ref mB, .ref mU, .ref mW, .int pi, .int wh, .long ms, .int aq, .int da, .ref mX, .ref mY, .long lu, .long ld, .long qu, .long qd])), (mT, .inl (cI, 800, .inl mt))] sz)) 0 0 (va_A [(oM, .inr (8, [.int th, .ref mT, .int ml, .int ma, .int mk, .int mp, .long mv, .int mw, .ref mN, .ref mD, .ref mF, .ref mS, .ref mL, .ref mR, .ref mE, .ref mK, .ref mV, .int dr, .int dc, .int ds, .int ru, .int cl, .ref mO, .int os, .int fc, .ref mA, .ref mB, .ref mU, .ref mW, .int pi, .int wh, .long ms, .int aq, .int da, .ref mX, .ref mY, .long lu, .long ld, .long qu, .long qd])), (mT, .inl (cI, 800, .inl mt))] sz) := by
  refine Met.ofW (cc := prog_10_method_10_code) (maxL := 3) (ret := none) (by decide) rfl ?_
  intro p e s m args below meth c s₁ B hml hv
  obtain ⟨rfl, hsz, hP, hKx, hD0⟩ := hv
  have hx := B.exec
  have hb := B.bytes
  have hr := B.returns
  have hts := atoms_spec (ws := (cw_Model_next :: bgw)) B.pre
  have hown : s.vm.findClass "PermitRulesModel" = some m.cls := findClass_of_methodNamed B.named
  have hlocks := B.notSynchronized
  have htb := fun (w : Cond) (h : w ∈ bgw) => hts w (List.mem_cons_of_mem _ h)
  have hK := hKx.1
  subst hsz
  have hD := hD0.self (sz := s.heap.size)
  generalize hAe : va_A [(oM, .inr (8, [.int th, .ref mT, .int ml, .int ma, .int mk, .int mp, .long mv, .int mw, .ref mN, .ref mD, .ref mF, .ref mS, .ref mL, .ref mR, .ref mE, .ref mK, .ref mV, .int dr, .int dc, .int ds, .int ru, .int cl, .ref mO, .int os, .int fc, .ref mA, .ref mB, .ref mU, .ref mW, .int pi, .int wh, .long ms, .int aq, .int da, .ref mX, .ref mY, .long lu, .long ld, .long qu, .long qd])), (mT, .inl (cI, 800, .inl mt))] s.heap.size = A at hD ⊢
  have hA : ∀ q : Nat, s.heap.size ≤ q → A q := fun q h => by rw [← hAe]; exact Or.inr h
  have hS : va_S A s.heap s.heap [] := va_S.rf
  have hl := lv_entry ([.ref oM]) (n := 3) (Nat.le_of_ble_eq_true rfl)
  rw [lg_entry_eq]
  generalize (lg_sl ([.ref oM]) ++ List.replicate (3 - (lg_sl ([.ref oM])).length) Slot.unset).toArray = ls at hl ⊢
  have hl : lv_has ls 3 [(0, .ref oM)] := hl
  have hP : va_P (dC, dI) vwCl [(oM, .inr (8, [.int th, .ref mT, .int ml, .int ma, .int mk, .int mp, .long mv, .int mw, .ref mN, .ref mD, .ref mF, .ref mS, .ref mL, .ref mR, .ref mE, .ref mK, .ref mV, .int dr, .int dc, .int ds, .int ru, .int cl, .ref mO, .int os, .int fc, .ref mA, .ref mB, .ref mU, .ref mW, .int pi, .int wh, .long ms, .int aq, .int da, .ref mX, .ref mY, .long lu, .long ld, .long qu, .long qd])), (mT, .inl (cI, 800, .inl mt))] s.heap := hP
  have hF : f_Model_next ml ma mv mw mt = (f_Model_next_L0 ml ma mv mw mt 801 ma) := rfl
  have lp176 : ∀ (n : Nat) (n_ : Int32) (xa : Int32) (xv : Int64) (xp : Int32) (xw : Int32), 0 ≤ xa.toInt → xa.toInt ≤ 800 → (800 - xa.toInt).toNat < n → f_Model_next ml ma mv mw mt = f_Model_next_L176 ml ma mv mw mt n n_ xa xv xp xw → ∀ (H : Heap) (locs : List Loc) (ls : Array Slot), va_P (dC, dI) vwCl [(oM, .inr (8, [.int th, .ref mT, .int ml, .int xa, .int mk, .int xp, .long xv, .int xw, .ref mN, .ref mD, .ref mF, .ref mS, .ref mL, .ref mR, .ref mE, .ref mK, .ref mV, .int dr, .int dc, .int ds, .int ru, .int cl, .ref mO, .int os, .int fc, .ref mA, .ref mB, .ref mU, .ref mW, .int pi, .int wh, .long ms, .int aq, .int da, .ref mX, .ref mY, .long lu, .long ld, .long qu, .long qd])), (mT, .inl (cI, 800, .inl mt))] H → va_D A [(oM, .inr (8, [.int th, .ref mT, .int ml, .int xa, .int mk, .int xp, .long xv, .int xw, .ref mN, .ref mD, .ref mF, .ref mS, .ref mL, .ref mR, .ref mE, .ref mK, .ref mV, .int dr, .int dc, .int ds, .int ru, .int cl, .ref mO, .int os, .int fc, .ref mA, .ref mB, .ref mU, .ref mW, .int pi, .int wh, .long ms, .int aq, .int da, .ref mX, .ref mY, .long lu, .long ld, .long qu, .long qd])), (mT, .inl (cI, 800, .inl mt))] → va_S A s.heap H locs → lv_has ls 3 [(2, .int n_), (0, .ref oM)] → W p l e (headSpec (cw_Model_next :: bgw) { frames := 2, cells := 0, slots := 0, locals := 46 }).room s m ([.ref oM] : List Value).toArray below meth c H locs 0 0 (MQ below (q_Model_next dC dI cB cI cJ oM mT mN mD mF mS mL mR mE mK mV mO mA mB mU mW mX mY th ml ma mk mp mv mw dr dc ds ru cl os fc pi wh ms aq da lu ld qu qd mt A) ([.ref oM] : List Value).toArray s 0 0 A) (F0 m 176 ls []) := by
    intro n
    induction n with
    | zero => intro n_ xa xv xp xw i0 i1 hn; exact absurd hn (Nat.not_lt_zero _)
    | succ n ih =>
      intro n_ xa xv xp xw i0 i1 hn hF H locs ls hP hD hS hl
      have hF := hF.trans (f_Model_next_L176_s ml ma mv mw mt n n_ xa xv xp xw)
      refine lv_aload_n hx hb d_Model_next_176 rfl (lv_at hl 1 rfl) ?_
      refine lv_aload_n hx hb d_Model_next_177 rfl (lv_at hl 1 rfl) ?_
      refine va_get (D := (dC, dI)) (ci := 8) (v := .int xa) (C := "PermitRulesModel") (T := T_Model) (N := 40) hx hb htb in_Model hown hK hP 0 rfl rfl 3 (by decide) (htb _ mb_656) (fun _ h9 => h9) rfl d_Model_next_178 ?_
      have hPc := hP.sub (ws' := [(oM, .inr (8, [.int th, .ref mT, .int ml, .int xa, .int mk, .int xp, .long xv, .int xw, .ref mN, .ref mD, .ref mF, .ref mS, .ref mL, .ref mR, .ref mE, .ref mK, .ref mV, .int dr, .int dc, .int ds, .int ru, .int cl, .ref mO, .int os, .int fc, .ref mA, .ref mB, .ref mU, .ref mW, .int pi, .int wh, .long ms, .int aq, .int da, .ref mX, .ref mY, .long lu, .long ld, .long qu, .long qd])), (mT, .inl (cI, 800, .inl mt))]) [0, 1] rfl
      have hDc := hD.sub (ws' := [(oM, .inr (8, [.int th, .ref mT, .int ml, .int xa, .int mk, .int xp, .long xv, .int xw, .ref mN, .ref mD, .ref mF, .ref mS, .ref mL, .ref mR, .ref mE, .ref mK, .ref mV, .int dr, .int dc, .int ds, .int ru, .int cl, .ref mO, .int os, .int fc, .ref mA, .ref mB, .ref mU, .ref mW, .int pi, .int wh, .long ms, .int aq, .int da, .ref mX, .ref mY, .long lu, .long ld, .long qu, .long qd])), (mT, .inl (cI, 800, .inl mt))]) [0, 1] (by decide) rfl
      have hFc := va_free (wc := [(oM, .inr (8, [.int th, .ref mT, .int ml, .int xa, .int mk, .int xp, .long xv, .int xw, .ref mN, .ref mD, .ref mF, .ref mS, .ref mL, .ref mR, .ref mE, .ref mK, .ref mV, .int dr, .int dc, .int ds, .int ru, .int cl, .ref mO, .int os, .int fc, .ref mA, .ref mB, .ref mU, .ref mW, .int pi, .int wh, .long ms, .int aq, .int da, .ref mX, .ref mY, .long lu, .long ld, .long qu, .long qd])), (mT, .inl (cI, 800, .inl mt))]) hD hS hA [0, 1] rfl
      refine va_calli (va_runV (As := [.int xa]) (rest := []) ⟨hx, hb, hml, hown, htb⟩ (c_Model_isLetter l dC dI cB cI cJ oM mT mN mD mF mS mL mR mE mK mV mO mA mB mU mW mX mY _ xa th ml xa mk xp xv xw dr dc ds ru cl os fc pi wh ms aq da lu ld qu qd mt (by omega) (by omega)) ⟨callB_of 1 htb (gb_all mb_814) rfl rfl rfl (htb _ mb_9) (htb _ mb_811) (by decide +kernel) ⟨Nat.le_of_ble_eq_true rfl, Nat.le_of_ble_eq_true rfl⟩, htb _ mb_813, htb _ mp_20⟩ ⟨kb_blind, va_recv hK hPc (ci := 8) (q0 := 0) rfl rfl, kb_at hPc hDc hKx⟩ rfl rfl hl.1 rfl (lv_room (Nat.le_of_ble_eq_true rfl)) d_Model_next_181 ⟨Nat.le_of_ble_eq_true rfl, Nat.le_of_ble_eq_true rfl⟩) hS (fun q _ h => hFc q h) hFc (fun z_33 u t H1 locs ht hvm hw hB hz1 hk1 hS => ?_)
      have hz_33 := hw
      have hF := hF.trans (lt_e hz_33)
      obtain ⟨hP1, hD1⟩ := hB
      rw [ht] at hP1
      obtain ⟨hP, hD⟩ := va_join (wr := []) (w1 := [(oM, .inr (8, [.int th, .ref mT, .int ml, .int xa, .int mk, .int xp, .long xv, .int xw, .ref mN, .ref mD, .ref mF, .ref mS, .ref mL, .ref mR, .ref mE, .ref mK, .ref mV, .int dr, .int dc, .int ds, .int ru, .int cl, .ref mO, .int os, .int fc, .ref mA, .ref mB, .ref mU, .ref mW, .int pi, .int wh, .long ms, .int aq, .int da, .ref mX, .ref mY, .long lu, .long ld, .long qu, .long qd])), (mT, .inl (cI, 800, .inl mt))]) hP hD [0, 1] [] rfl rfl (by decide) (by decide) hk1 hFc hP1 hD1
      generalize H1 = H at hP hS ⊢
      have hP : va_P (dC, dI) vwCl [(oM, .inr (8, [.int th, .ref mT, .int ml, .int xa, .int mk, .int xp, .long xv, .int xw, .ref mN, .ref mD, .ref mF, .ref mS, .ref mL, .ref mR, .ref mE, .ref mK, .ref mV, .int dr, .int dc, .int ds, .int ru, .int cl, .ref mO, .int os, .int fc, .ref mA, .ref mB, .ref mU, .ref mW, .int pi, .int wh, .long ms, .int aq, .int da, .ref mX, .ref mY, .long lu, .long ld, .long qu, .long qd])), (mT, .inl (cI, 800, .inl mt))] H := hP
      have hD : va_D A [(oM, .inr (8, [.int th, .ref mT, .int ml, .int xa, .int mk, .int xp, .long xv, .int xw, .ref mN, .ref mD, .ref mF, .ref mS, .ref mL, .ref mR, .ref mE, .ref mK, .ref mV, .int dr, .int dc, .int ds, .int ru, .int cl, .ref mO, .int os, .int fc, .ref mA, .ref mB, .ref mU, .ref mW, .int pi, .int wh, .long ms, .int aq, .int da, .ref mX, .ref mY, .long lu, .long ld, .long qu, .long qd])), (mT, .inl (cI, 800, .inl mt))] := hD
      refine lv_if_eq (tgt := 238) hx hb d_Model_next_184 (by decide) (fun c_34 => ?_) (fun c_34 => ?_)
      · have hF := hF.trans (if_pos c_34)
        have tc_34 := ti_eq (Eq.refl z_33.toInt) (show (0 : Int32).toInt = 0 by decide) c_34
        refine lv_aload_n hx hb d_Model_next_238 rfl (lv_at hl 1 rfl) ?_
        refine lv_iload_n hx hb d_Model_next_239 rfl (lv_at hl 0 rfl) ?_
        refine lv_bipush (v := 8) hx hb d_Model_next_240 (by decide) ?_
        refine lv_icmp_le (tgt := 249) hx hb d_Model_next_242 (by decide) (fun c_35 => ?_) (fun c_35 => ?_)
        · have hF := hF.trans (if_pos c_35)
          have tc_35 := ti_le (Eq.refl n_.toInt) (show (8 : Int32).toInt = 8 by decide) c_35
          refine lv_iconst (v := 2) hx hb d_Model_next_249 (by decide) ?_
          refine va_put (D := (dC, dI)) (ci := 8) (v := .int 2) (ty := .int) (C := "PermitRulesModel") (T := T_Model) (N := 40) hx hb htb in_Model ty_Model to_Model nm_Model hown hK hP hD hS 0 rfl rfl 4 (by decide) (htb _ mb_657) (fun _ h9 => h9) rfl (by decide +kernel) rfl rfl (Nat.le_of_ble_eq_true rfl) d_Model_next_250 (fun H locs hP hD hS => ?_)
          have hP : va_P (dC, dI) vwCl [(oM, .inr (8, [.int th, .ref mT, .int ml, .int xa, .int 2, .int xp, .long xv, .int xw, .ref mN, .ref mD, .ref mF, .ref mS, .ref mL, .ref mR, .ref mE, .ref mK, .ref mV, .int dr, .int dc, .int ds, .int ru, .int cl, .ref mO, .int os, .int fc, .ref mA, .ref mB, .ref mU, .ref mW, .int pi, .int wh, .long ms, .int aq, .int da, .ref mX, .ref mY, .long lu, .long ld, .long qu, .long qd])), (mT, .inl (cI, 800, .inl mt))] H := hP
          have hD : va_D A [(oM, .inr (8, [.int th, .ref mT, .int ml, .int xa, .int 2, .int xp, .long xv, .int xw, .ref mN, .ref mD, .ref mF, .ref mS, .ref mL, .ref mR, .ref mE, .ref mK, .ref mV, .int dr, .int dc, .int ds, .int ru, .int cl, .ref mO, .int os, .int fc, .ref mA, .ref mB, .ref mU, .ref mW, .int pi, .int wh, .long ms, .int aq, .int da, .ref mX, .ref mY, .long lu, .long ld, .long qu, .long qd])), (mT, .inl (cI, 800, .inl mt))] := hD
          refine lv_goto (tgt := 326) hx hb d_Model_next_253 (by decide) ?_
          refine lv_aload_n hx hb d_Model_next_326 rfl (lv_at hl 1 rfl) ?_
          refine lv_aload_n hx hb d_Model_next_327 rfl (lv_at hl 1 rfl) ?_
          refine va_get (D := (dC, dI)) (ci := 8) (v := .int xw) (C := "PermitRulesModel") (T := T_Model) (N := 40) hx hb htb in_Model hown hK hP 0 rfl rfl 7 (by decide) (htb _ mb_660) (fun _ h9 => h9) rfl d_Model_next_328 ?_
          refine lv_bipush (v := 120) hx hb d_Model_next_331 (by decide) ?_
          refine lv_icmp_le (tgt := 340) hx hb d_Model_next_333 (by decide) (fun c_36 => ?_) (fun c_36 => ?_)
          · have hF := hF.trans (if_pos c_36)
            have tc_36 := ti_le (Eq.refl xw.toInt) (show (120 : Int32).toInt = 120 by decide) c_36
            refine lv_aload_n hx hb d_Model_next_340 rfl (lv_at hl 1 rfl) ?_
            refine va_get (D := (dC, dI)) (ci := 8) (v := .int 2) (C := "PermitRulesModel") (T := T_Model) (N := 40) hx hb htb in_Model hown hK hP 0 rfl rfl 4 (by decide) (htb _ mb_657) (fun _ h9 => h9) rfl d_Model_next_341 ?_
            refine va_put (D := (dC, dI)) (ci := 8) (v := .int 2) (ty := .int) (C := "PermitRulesModel") (T := T_Model) (N := 40) hx hb htb in_Model ty_Model to_Model nm_Model hown hK hP hD hS 0 rfl rfl 4 (by decide) (htb _ mb_657) (fun _ h9 => h9) rfl (by decide +kernel) rfl rfl (Nat.le_of_ble_eq_true rfl) d_Model_next_344 (fun H locs hP hD hS => ?_)
            have hP : va_P (dC, dI) vwCl [(oM, .inr (8, [.int th, .ref mT, .int ml, .int xa, .int 2, .int xp, .long xv, .int xw, .ref mN, .ref mD, .ref mF, .ref mS, .ref mL, .ref mR, .ref mE, .ref mK, .ref mV, .int dr, .int dc, .int ds, .int ru, .int cl, .ref mO, .int os, .int fc, .ref mA, .ref mB, .ref mU, .ref mW, .int pi, .int wh, .long ms, .int aq, .int da, .ref mX, .ref mY, .long lu, .long ld, .long qu, .long qd])), (mT, .inl (cI, 800, .inl mt))] H := hP
            have hD : va_D A [(oM, .inr (8, [.int th, .ref mT, .int ml, .int xa, .int 2, .int xp, .long xv, .int xw, .ref mN, .ref mD, .ref mF, .ref mS, .ref mL, .ref mR, .ref mE, .ref mK, .ref mV, .int dr, .int dc, .int ds, .int ru, .int cl, .ref mO, .int os, .int fc, .ref mA, .ref mB, .ref mU, .ref mW, .int pi, .int wh, .long ms, .int aq, .int da, .ref mX, .ref mY, .long lu, .long ld, .long qu, .long qd])), (mT, .inl (cI, 800, .inl mt))] := hD
            have hP9 := hP.sub (ws' := [(oM, .inr (8, [.int th, .ref mT, .int ml, .int xa, .int 2, .int xp, .long xv, .int xw, .ref mN, .ref mD, .ref mF, .ref mS, .ref mL, .ref mR, .ref mE, .ref mK, .ref mV, .int dr, .int dc, .int ds, .int ru, .int cl, .ref mO, .int os, .int fc, .ref mA, .ref mB, .ref mU, .ref mW, .int pi, .int wh, .long ms, .int aq, .int da, .ref mX, .ref mY, .long lu, .long ld, .long qu, .long qd])), (mT, .inl (cI, 800, .inl mt))]) [0, 1] rfl
            have hD9 := hD.sub (ws' := [(oM, .inr (8, [.int th, .ref mT, .int ml, .int xa, .int 2, .int xp, .long xv, .int xw, .ref mN, .ref mD, .ref mF, .ref mS, .ref mL, .ref mR, .ref mE, .ref mK, .ref mV, .int dr, .int dc, .int ds, .int ru, .int cl, .ref mO, .int os, .int fc, .ref mA, .ref mB, .ref mU, .ref mW, .int pi, .int wh, .long ms, .int aq, .int da, .ref mX, .ref mY, .long lu, .long ld, .long qu, .long qd])), (mT, .inl (cI, 800, .inl mt))]) [0, 1] (by decide) rfl
            exact W.vret hx hb hr (fun t ht hW => ⟨⟨(xa, 2, xp, xv, xw), rfl, by rw [hF], by rw [ht]; exact hP9, hD9⟩, hS.F ht⟩) hS.2.2 d_Model_next_347
          · have hF := hF.trans (if_neg c_36)
            have tc_36 := ti_nle (Eq.refl xw.toInt) (show (120 : Int32).toInt = 120 by decide) c_36
            refine lv_iconst (v := 3) hx hb d_Model_next_336 (by decide) ?_
            refine lv_goto (tgt := 344) hx hb d_Model_next_337 (by decide) ?_
            refine va_put (D := (dC, dI)) (ci := 8) (v := .int 3) (ty := .int) (C := "PermitRulesModel") (T := T_Model) (N := 40) hx hb htb in_Model ty_Model to_Model nm_Model hown hK hP hD hS 0 rfl rfl 4 (by decide) (htb _ mb_657) (fun _ h9 => h9) rfl (by decide +kernel) rfl rfl (Nat.le_of_ble_eq_true rfl) d_Model_next_344 (fun H locs hP hD hS => ?_)
            have hP : va_P (dC, dI) vwCl [(oM, .inr (8, [.int th, .ref mT, .int ml, .int xa, .int 3, .int xp, .long xv, .int xw, .ref mN, .ref mD, .ref mF, .ref mS, .ref mL, .ref mR, .ref mE, .ref mK, .ref mV, .int dr, .int dc, .int ds, .int ru, .int cl, .ref mO, .int os, .int fc, .ref mA, .ref mB, .ref mU, .ref mW, .int pi, .int wh, .long ms, .int aq, .int da, .ref mX, .ref mY, .long lu, .long ld, .long qu, .long qd])), (mT, .inl (cI, 800, .inl mt))] H := hP
            have hD : va_D A [(oM, .inr (8, [.int th, .ref mT, .int ml, .int xa, .int 3, .int xp, .long xv, .int xw, .ref mN, .ref mD, .ref mF, .ref mS, .ref mL, .ref mR, .ref mE, .ref mK, .ref mV, .int dr, .int dc, .int ds, .int ru, .int cl, .ref mO, .int os, .int fc, .ref mA, .ref mB, .ref mU, .ref mW, .int pi, .int wh, .long ms, .int aq, .int da, .ref mX, .ref mY, .long lu, .long ld, .long qu, .long qd])), (mT, .inl (cI, 800, .inl mt))] := hD
            have hP9 := hP.sub (ws' := [(oM, .inr (8, [.int th, .ref mT, .int ml, .int xa, .int 3, .int xp, .long xv, .int xw, .ref mN, .ref mD, .ref mF, .ref mS, .ref mL, .ref mR, .ref mE, .ref mK, .ref mV, .int dr, .int dc, .int ds, .int ru, .int cl, .ref mO, .int os, .int fc, .ref mA, .ref mB, .ref mU, .ref mW, .int pi, .int wh, .long ms, .int aq, .int da, .ref mX, .ref mY, .long lu, .long ld, .long qu, .long qd])), (mT, .inl (cI, 800, .inl mt))]) [0, 1] rfl
            have hD9 := hD.sub (ws' := [(oM, .inr (8, [.int th, .ref mT, .int ml, .int xa, .int 3, .int xp, .long xv, .int xw, .ref mN, .ref mD, .ref mF, .ref mS, .ref mL, .ref mR, .ref mE, .ref mK, .ref mV, .int dr, .int dc, .int ds, .int ru, .int cl, .ref mO, .int os, .int fc, .ref mA, .ref mB, .ref mU, .ref mW, .int pi, .int wh, .long ms, .int aq, .int da, .ref mX, .ref mY, .long lu, .long ld, .long qu, .long qd])), (mT, .inl (cI, 800, .inl mt))]) [0, 1] (by decide) rfl
            exact W.vret hx hb hr (fun t ht hW => ⟨⟨(xa, 3, xp, xv, xw), rfl, by rw [hF], by rw [ht]; exact hP9, hD9⟩, hS.F ht⟩) hS.2.2 d_Model_next_347
        · have hF := hF.trans (if_neg c_35)
          have tc_35 := ti_nle (Eq.refl n_.toInt) (show (8 : Int32).toInt = 8 by decide) c_35
          refine lv_iconst (v := 3) hx hb d_Model_next_245 (by decide) ?_
          refine lv_goto (tgt := 250) hx hb d_Model_next_246 (by decide) ?_
          refine va_put (D := (dC, dI)) (ci := 8) (v := .int 3) (ty := .int) (C := "PermitRulesModel") (T := T_Model) (N := 40) hx hb htb in_Model ty_Model to_Model nm_Model hown hK hP hD hS 0 rfl rfl 4 (by decide) (htb _ mb_657) (fun _ h9 => h9) rfl (by decide +kernel) rfl rfl (Nat.le_of_ble_eq_true rfl) d_Model_next_250 (fun H locs hP hD hS => ?_)
          have hP : va_P (dC, dI) vwCl [(oM, .inr (8, [.int th, .ref mT, .int ml, .int xa, .int 3, .int xp, .long xv, .int xw, .ref mN, .ref mD, .ref mF, .ref mS, .ref mL, .ref mR, .ref mE, .ref mK, .ref mV, .int dr, .int dc, .int ds, .int ru, .int cl, .ref mO, .int os, .int fc, .ref mA, .ref mB, .ref mU, .ref mW, .int pi, .int wh, .long ms, .int aq, .int da, .ref mX, .ref mY, .long lu, .long ld, .long qu, .long qd])), (mT, .inl (cI, 800, .inl mt))] H := hP
          have hD : va_D A [(oM, .inr (8, [.int th, .ref mT, .int ml, .int xa, .int 3, .int xp, .long xv, .int xw, .ref mN, .ref mD, .ref mF, .ref mS, .ref mL, .ref mR, .ref mE, .ref mK, .ref mV, .int dr, .int dc, .int ds, .int ru, .int cl, .ref mO, .int os, .int fc, .ref mA, .ref mB, .ref mU, .ref mW, .int pi, .int wh, .long ms, .int aq, .int da, .ref mX, .ref mY, .long lu, .long ld, .long qu, .long qd])), (mT, .inl (cI, 800, .inl mt))] := hD
          refine lv_goto (tgt := 326) hx hb d_Model_next_253 (by decide) ?_
          refine lv_aload_n hx hb d_Model_next_326 rfl (lv_at hl 1 rfl) ?_
          refine lv_aload_n hx hb d_Model_next_327 rfl (lv_at hl 1 rfl) ?_
          refine va_get (D := (dC, dI)) (ci := 8) (v := .int xw) (C := "PermitRulesModel") (T := T_Model) (N := 40) hx hb htb in_Model hown hK hP 0 rfl rfl 7 (by decide) (htb _ mb_660) (fun _ h9 => h9) rfl d_Model_next_328 ?_
          refine lv_bipush (v := 120) hx hb d_Model_next_331 (by decide) ?_
          refine lv_icmp_le (tgt := 340) hx hb d_Model_next_333 (by decide) (fun c_37 => ?_) (fun c_37 => ?_)
          · have hF := hF.trans (if_pos c_37)
            have tc_37 := ti_le (Eq.refl xw.toInt) (show (120 : Int32).toInt = 120 by decide) c_37
            refine lv_aload_n hx hb d_Model_next_340 rfl (lv_at hl 1 rfl) ?_
            refine va_get (D := (dC, dI)) (ci := 8) (v := .int 3) (C := "PermitRulesModel") (T := T_Model) (N := 40) hx hb htb in_Model hown hK hP 0 rfl rfl 4 (by decide) (htb _ mb_657) (fun _ h9 => h9) rfl d_Model_next_341 ?_
            refine va_put (D := (dC, dI)) (ci := 8) (v := .int 3) (ty := .int) (C := "PermitRulesModel") (T := T_Model) (N := 40) hx hb htb in_Model ty_Model to_Model nm_Model hown hK hP hD hS 0 rfl rfl 4 (by decide) (htb _ mb_657) (fun _ h9 => h9) rfl (by decide +kernel) rfl rfl (Nat.le_of_ble_eq_true rfl) d_Model_next_344 (fun H locs hP hD hS => ?_)
            have hP : va_P (dC, dI) vwCl [(oM, .inr (8, [.int th, .ref mT, .int ml, .int xa, .int 3, .int xp, .long xv, .int xw, .ref mN, .ref mD, .ref mF, .ref mS, .ref mL, .ref mR, .ref mE, .ref mK, .ref mV, .int dr, .int dc, .int ds, .int ru, .int cl, .ref mO, .int os, .int fc, .ref mA, .ref mB, .ref mU, .ref mW, .int pi, .int wh, .long ms, .int aq, .int da, .ref mX, .ref mY, .long lu, .long ld, .long qu, .long qd])), (mT, .inl (cI, 800, .inl mt))] H := hP
            have hD : va_D A [(oM, .inr (8, [.int th, .ref mT, .int ml, .int xa, .int 3, .int xp, .long xv, .int xw, .ref mN, .ref mD, .ref mF, .ref mS, .ref mL, .ref mR, .ref mE, .ref mK, .ref mV, .int dr, .int dc, .int ds, .int ru, .int cl, .ref mO, .int os, .int fc, .ref mA, .ref mB, .ref mU, .ref mW, .int pi, .int wh, .long ms, .int aq, .int da, .ref mX, .ref mY, .long lu, .long ld, .long qu, .long qd])), (mT, .inl (cI, 800, .inl mt))] := hD
            have hP9 := hP.sub (ws' := [(oM, .inr (8, [.int th, .ref mT, .int ml, .int xa, .int 3, .int xp, .long xv, .int xw, .ref mN, .ref mD, .ref mF, .ref mS, .ref mL, .ref mR, .ref mE, .ref mK, .ref mV, .int dr, .int dc, .int ds, .int ru, .int cl, .ref mO, .int os, .int fc, .ref mA, .ref mB, .ref mU, .ref mW, .int pi, .int wh, .long ms, .int aq, .int da, .ref mX, .ref mY, .long lu, .long ld, .long qu, .long qd])), (mT, .inl (cI, 800, .inl mt))]) [0, 1] rfl
            have hD9 := hD.sub (ws' := [(oM, .inr (8, [.int th, .ref mT, .int ml, .int xa, .int 3, .int xp, .long xv, .int xw, .ref mN, .ref mD, .ref mF, .ref mS, .ref mL, .ref mR, .ref mE, .ref mK, .ref mV, .int dr, .int dc, .int ds, .int ru, .int cl, .ref mO, .int os, .int fc, .ref mA, .ref mB, .ref mU, .ref mW, .int pi, .int wh, .long ms, .int aq, .int da, .ref mX, .ref mY, .long lu, .long ld, .long qu, .long qd])), (mT, .inl (cI, 800, .inl mt))]) [0, 1] (by decide) rfl
            exact W.vret hx hb hr (fun t ht hW => ⟨⟨(xa, 3, xp, xv, xw), rfl, by rw [hF], by rw [ht]; exact hP9, hD9⟩, hS.F ht⟩) hS.2.2 d_Model_next_347
          · have hF := hF.trans (if_neg c_37)
            have tc_37 := ti_nle (Eq.refl xw.toInt) (show (120 : Int32).toInt = 120 by decide) c_37
            refine lv_iconst (v := 3) hx hb d_Model_next_336 (by decide) ?_
            refine lv_goto (tgt := 344) hx hb d_Model_next_337 (by decide) ?_
            refine va_put (D := (dC, dI)) (ci := 8) (v := .int 3) (ty := .int) (C := "PermitRulesModel") (T := T_Model) (N := 40) hx hb htb in_Model ty_Model to_Model nm_Model hown hK hP hD hS 0 rfl rfl 4 (by decide) (htb _ mb_657) (fun _ h9 => h9) rfl (by decide +kernel) rfl rfl (Nat.le_of_ble_eq_true rfl) d_Model_next_344 (fun H locs hP hD hS => ?_)
            have hP : va_P (dC, dI) vwCl [(oM, .inr (8, [.int th, .ref mT, .int ml, .int xa, .int 3, .int xp, .long xv, .int xw, .ref mN, .ref mD, .ref mF, .ref mS, .ref mL, .ref mR, .ref mE, .ref mK, .ref mV, .int dr, .int dc, .int ds, .int ru, .int cl, .ref mO, .int os, .int fc, .ref mA, .ref mB, .ref mU, .ref mW, .int pi, .int wh, .long ms, .int aq, .int da, .ref mX, .ref mY, .long lu, .long ld, .long qu, .long qd])), (mT, .inl (cI, 800, .inl mt))] H := hP
            have hD : va_D A [(oM, .inr (8, [.int th, .ref mT, .int ml, .int xa, .int 3, .int xp, .long xv, .int xw, .ref mN, .ref mD, .ref mF, .ref mS, .ref mL, .ref mR, .ref mE, .ref mK, .ref mV, .int dr, .int dc, .int ds, .int ru, .int cl, .ref mO, .int os, .int fc, .ref mA, .ref mB, .ref mU, .ref mW, .int pi, .int wh, .long ms, .int aq, .int da, .ref mX, .ref mY, .long lu, .long ld, .long qu, .long qd])), (mT, .inl (cI, 800, .inl mt))] := hD
            have hP9 := hP.sub (ws' := [(oM, .inr (8, [.int th, .ref mT, .int ml, .int xa, .int 3, .int xp, .long xv, .int xw, .ref mN, .ref mD, .ref mF, .ref mS, .ref mL, .ref mR, .ref mE, .ref mK, .ref mV, .int dr, .int dc, .int ds, .int ru, .int cl, .ref mO, .int os, .int fc, .ref mA, .ref mB, .ref mU, .ref mW, .int pi, .int wh, .long ms, .int aq, .int da, .ref mX, .ref mY, .long lu, .long ld, .long qu, .long qd])), (mT, .inl (cI, 800, .inl mt))]) [0, 1] rfl
            have hD9 := hD.sub (ws' := [(oM, .inr (8, [.int th, .ref mT, .int ml, .int xa, .int 3, .int xp, .long xv, .int xw, .ref mN, .ref mD, .ref mF, .ref mS, .ref mL, .ref mR, .ref mE, .ref mK, .ref mV, .int dr, .int dc, .int ds, .int ru, .int cl, .ref mO, .int os, .int fc, .ref mA, .ref mB, .ref mU, .ref mW, .int pi, .int wh, .long ms, .int aq, .int da, .ref mX, .ref mY, .long lu, .long ld, .long qu, .long qd])), (mT, .inl (cI, 800, .inl mt))]) [0, 1] (by decide) rfl
            exact W.vret hx hb hr (fun t ht hW => ⟨⟨(xa, 3, xp, xv, xw), rfl, by rw [hF], by rw [ht]; exact hP9, hD9⟩, hS.F ht⟩) hS.2.2 d_Model_next_347
      · have hF := hF.trans (if_neg c_34)
        have tc_34 := ti_ne (Eq.refl z_33.toInt) (show (0 : Int32).toInt = 0 by decide) c_34
        refine lv_aload_n hx hb d_Model_next_187 rfl (lv_at hl 1 rfl) ?_
        refine lv_iload_n hx hb d_Model_next_188 rfl (lv_at hl 0 rfl) ?_
        refine lv_bipush (v := 8) hx hb d_Model_next_189 (by decide) ?_
        refine lv_icmp_ge (tgt := 215) hx hb d_Model_next_191 (by decide) (fun c_38 => ?_) (fun c_38 => ?_)
        · have hF := hF.trans (if_pos c_38)
          have tc_38 := ti_le (show (8 : Int32).toInt = 8 by decide) (Eq.refl n_.toInt) c_38
          refine lv_aload_n hx hb d_Model_next_215 rfl (lv_at hl 1 rfl) ?_
          refine va_get (D := (dC, dI)) (ci := 8) (v := .long xv) (C := "PermitRulesModel") (T := T_Model) (N := 40) hx hb htb in_Model hown hK hP 0 rfl rfl 6 (by decide) (htb _ mb_659) (fun _ h9 => h9) rfl d_Model_next_216 ?_
          refine va_put (D := (dC, dI)) (ci := 8) (v := .long xv) (ty := .long) (C := "PermitRulesModel") (T := T_Model) (N := 40) hx hb htb in_Model ty_Model to_Model nm_Model hown hK hP hD hS 0 rfl rfl 6 (by decide) (htb _ mb_659) (fun _ h9 => h9) rfl (by decide +kernel) rfl rfl (Nat.le_of_ble_eq_true rfl) d_Model_next_219 (fun H locs hP hD hS => ?_)
          have hP : va_P (dC, dI) vwCl [(oM, .inr (8, [.int th, .ref mT, .int ml, .int xa, .int mk, .int xp, .long xv, .int xw, .ref mN, .ref mD, .ref mF, .ref mS, .ref mL, .ref mR, .ref mE, .ref mK, .ref mV, .int dr, .int dc, .int ds, .int ru, .int cl, .ref mO, .int os, .int fc, .ref mA, .ref mB, .ref mU, .ref mW, .int pi, .int wh, .long ms, .int aq, .int da, .ref mX, .ref mY, .long lu, .long ld, .long qu, .long qd])), (mT, .inl (cI, 800, .inl mt))] H := hP
          have hD : va_D A [(oM, .inr (8, [.int th, .ref mT, .int ml, .int xa, .int mk, .int xp, .long xv, .int xw, .ref mN, .ref mD, .ref mF, .ref mS, .ref mL, .ref mR, .ref mE, .ref mK, .ref mV, .int dr, .int dc, .int ds, .int ru, .int cl, .ref mO, .int os, .int fc, .ref mA, .ref mB, .ref mU, .ref mW, .int pi, .int wh, .long ms, .int aq, .int da, .ref mX, .ref mY, .long lu, .long ld, .long qu, .long qd])), (mT, .inl (cI, 800, .inl mt))] := hD
          refine lv_iinc (v := n_ + 1) (lv' := [(2, .int (n_ + 1)), (0, .ref oM)]) hx hb d_Model_next_222 hl (k := 0) rfl (by first | rfl | decide) (by decide) rfl (fun ls hl => ?_)
          refine lv_aload_n hx hb d_Model_next_225 rfl (lv_at hl 1 rfl) ?_
          refine lv_dup hx hb d_Model_next_226 rfl ?_
          refine va_get (D := (dC, dI)) (ci := 8) (v := .int xa) (C := "PermitRulesModel") (T := T_Model) (N := 40) hx hb htb in_Model hown hK hP 0 rfl rfl 3 (by decide) (htb _ mb_656) (fun _ h9 => h9) rfl d_Model_next_227 ?_
          refine lv_iconst (v := 1) hx hb d_Model_next_230 (by decide) ?_
          refine lv_iadd hx hb d_Model_next_231 ?_
          refine va_put (D := (dC, dI)) (ci := 8) (v := .int (xa + 1)) (ty := .int) (C := "PermitRulesModel") (T := T_Model) (N := 40) hx hb htb in_Model ty_Model to_Model nm_Model hown hK hP hD hS 0 rfl rfl 3 (by decide) (htb _ mb_656) (fun _ h9 => h9) rfl (by decide +kernel) rfl rfl (Nat.le_of_ble_eq_true rfl) d_Model_next_232 (fun H locs hP hD hS => ?_)
          have hP : va_P (dC, dI) vwCl [(oM, .inr (8, [.int th, .ref mT, .int ml, .int (xa + 1), .int mk, .int xp, .long xv, .int xw, .ref mN, .ref mD, .ref mF, .ref mS, .ref mL, .ref mR, .ref mE, .ref mK, .ref mV, .int dr, .int dc, .int ds, .int ru, .int cl, .ref mO, .int os, .int fc, .ref mA, .ref mB, .ref mU, .ref mW, .int pi, .int wh, .long ms, .int aq, .int da, .ref mX, .ref mY, .long lu, .long ld, .long qu, .long qd])), (mT, .inl (cI, 800, .inl mt))] H := hP
          have hD : va_D A [(oM, .inr (8, [.int th, .ref mT, .int ml, .int (xa + 1), .int mk, .int xp, .long xv, .int xw, .ref mN, .ref mD, .ref mF, .ref mS, .ref mL, .ref mR, .ref mE, .ref mK, .ref mV, .int dr, .int dc, .int ds, .int ru, .int cl, .ref mO, .int os, .int fc, .ref mA, .ref mB, .ref mU, .ref mW, .int pi, .int wh, .long ms, .int aq, .int da, .ref mX, .ref mY, .long lu, .long ld, .long qu, .long qd])), (mT, .inl (cI, 800, .inl mt))] := hD
          refine lv_goto (tgt := 176) hx hb d_Model_next_235 (by decide) ?_
          have e0 := me_lt hz_33 c_34
          exact ih (n_ + 1) (xa + 1) xv xp xw (by have q0 := (oi_addE (Eq.refl xa.toInt) (show (1 : Int32).toInt = 1 by decide) (by omega) (by omega)); omega) (by have q0 := (oi_addE (Eq.refl xa.toInt) (show (1 : Int32).toInt = 1 by decide) (by omega) (by omega)); omega) (by have q0 := (oi_addE (Eq.refl xa.toInt) (show (1 : Int32).toInt = 1 by decide) (by omega) (by omega)); omega) hF _ _ _ (hP.sub [0, 1] rfl) (hD.sub [0, 1] (by decide) rfl) hS (lv_sub hl [0, 1] rfl)
        · have hF := hF.trans (if_neg c_38)
          have tc_38 := ti_nle (show (8 : Int32).toInt = 8 by decide) (Eq.refl n_.toInt) c_38
          refine lv_aload_n hx hb d_Model_next_194 rfl (lv_at hl 1 rfl) ?_
          refine va_get (D := (dC, dI)) (ci := 8) (v := .long xv) (C := "PermitRulesModel") (T := T_Model) (N := 40) hx hb htb in_Model hown hK hP 0 rfl rfl 6 (by decide) (htb _ mb_659) (fun _ h9 => h9) rfl d_Model_next_195 ?_
          refine lv_ldc2 (v := 256) hx hb hown (htb _ mb_817) d_Model_next_198 ?_
          refine lv_lmul hx hb d_Model_next_201 ?_
          refine lv_aload_n hx hb d_Model_next_202 rfl (lv_at hl 1 rfl) ?_
          refine lv_aload_n hx hb d_Model_next_203 rfl (lv_at hl 1 rfl) ?_
          refine va_get (D := (dC, dI)) (ci := 8) (v := .int xa) (C := "PermitRulesModel") (T := T_Model) (N := 40) hx hb htb in_Model hown hK hP 0 rfl rfl 3 (by decide) (htb _ mb_656) (fun _ h9 => h9) rfl d_Model_next_204 ?_
          have hPc := hP.sub (ws' := [(oM, .inr (8, [.int th, .ref mT, .int ml, .int xa, .int mk, .int xp, .long xv, .int xw, .ref mN, .ref mD, .ref mF, .ref mS, .ref mL, .ref mR, .ref mE, .ref mK, .ref mV, .int dr, .int dc, .int ds, .int ru, .int cl, .ref mO, .int os, .int fc, .ref mA, .ref mB, .ref mU, .ref mW, .int pi, .int wh, .long ms, .int aq, .int da, .ref mX, .ref mY, .long lu, .long ld, .long qu, .long qd])), (mT, .inl (cI, 800, .inl mt))]) [0, 1] rfl
          have hDc := hD.sub (ws' := [(oM, .inr (8, [.int th, .ref mT, .int ml, .int xa, .int mk, .int xp, .long xv, .int xw, .ref mN, .ref mD, .ref mF, .ref mS, .ref mL, .ref mR, .ref mE, .ref mK, .ref mV, .int dr, .int dc, .int ds, .int ru, .int cl, .ref mO, .int os, .int fc, .ref mA, .ref mB, .ref mU, .ref mW, .int pi, .int wh, .long ms, .int aq, .int da, .ref mX, .ref mY, .long lu, .long ld, .long qu, .long qd])), (mT, .inl (cI, 800, .inl mt))]) [0, 1] (by decide) rfl
          have hFc := va_free (wc := [(oM, .inr (8, [.int th, .ref mT, .int ml, .int xa, .int mk, .int xp, .long xv, .int xw, .ref mN, .ref mD, .ref mF, .ref mS, .ref mL, .ref mR, .ref mE, .ref mK, .ref mV, .int dr, .int dc, .int ds, .int ru, .int cl, .ref mO, .int os, .int fc, .ref mA, .ref mB, .ref mU, .ref mW, .int pi, .int wh, .long ms, .int aq, .int da, .ref mX, .ref mY, .long lu, .long ld, .long qu, .long qd])), (mT, .inl (cI, 800, .inl mt))]) hD hS hA [0, 1] rfl
          refine va_calli (va_runV (As := [.int xa]) (rest := [.long (xv * 256), .ref oM]) ⟨hx, hb, hml, hown, htb⟩ (c_Model_character l dC dI cB cI cJ oM mT mN mD mF mS mL mR mE mK mV mO mA mB mU mW mX mY _ xa th ml xa mk xp xv xw dr dc ds ru cl os fc pi wh ms aq da lu ld qu qd mt (by omega) (by omega)) ⟨callB_of 1 htb (gb_all mb_803) rfl rfl rfl (htb _ mb_9) (htb _ mb_800) (by decide +kernel) ⟨Nat.le_of_ble_eq_true rfl, Nat.le_of_ble_eq_true rfl⟩, htb _ mb_802, htb _ mp_18⟩ ⟨kb_blind, va_recv hK hPc (ci := 8) (q0 := 0) rfl rfl, kb_at hPc hDc hKx⟩ rfl rfl hl.1 rfl (lv_room (Nat.le_of_ble_eq_true rfl)) d_Model_next_207 ⟨Nat.le_of_ble_eq_true rfl, Nat.le_of_ble_eq_true rfl⟩) hS (fun q _ h => hFc q h) hFc (fun z_39 u t H1 locs ht hvm hw hB hz1 hk1 hS => ?_)
          have hz_39 := hw
          have hF := hF.trans (lt_e hz_39)
          obtain ⟨hP1, hD1⟩ := hB
          rw [ht] at hP1
          obtain ⟨hP, hD⟩ := va_join (wr := []) (w1 := [(oM, .inr (8, [.int th, .ref mT, .int ml, .int xa, .int mk, .int xp, .long xv, .int xw, .ref mN, .ref mD, .ref mF, .ref mS, .ref mL, .ref mR, .ref mE, .ref mK, .ref mV, .int dr, .int dc, .int ds, .int ru, .int cl, .ref mO, .int os, .int fc, .ref mA, .ref mB, .ref mU, .ref mW, .int pi, .int wh, .long ms, .int aq, .int da, .ref mX, .ref mY, .long lu, .long ld, .long qu, .long qd])), (mT, .inl (cI, 800, .inl mt))]) hP hD [0, 1] [] rfl rfl (by decide) (by decide) hk1 hFc hP1 hD1
          generalize H1 = H at hP hS ⊢
          have hP : va_P (dC, dI) vwCl [(oM, .inr (8, [.int th, .ref mT, .int ml, .int xa, .int mk, .int xp, .long xv, .int xw, .ref mN, .ref mD, .ref mF, .ref mS, .ref mL, .ref mR, .ref mE, .ref mK, .ref mV, .int dr, .int dc, .int ds, .int ru, .int cl, .ref mO, .int os, .int fc, .ref mA, .ref mB, .ref mU, .ref mW, .int pi, .int wh, .long ms, .int aq, .int da, .ref mX, .ref mY, .long lu, .long ld, .long qu, .long qd])), (mT, .inl (cI, 800, .inl mt))] H := hP
          have hD : va_D A [(oM, .inr (8, [.int th, .ref mT, .int ml, .int xa, .int mk, .int xp, .long xv, .int xw, .ref mN, .ref mD, .ref mF, .ref mS, .ref mL, .ref mR, .ref mE, .ref mK, .ref mV, .int dr, .int dc, .int ds, .int ru, .int cl, .ref mO, .int os, .int fc, .ref mA, .ref mB, .ref mU, .ref mW, .int pi, .int wh, .long ms, .int aq, .int da, .ref mX, .ref mY, .long lu, .long ld, .long qu, .long qd])), (mT, .inl (cI, 800, .inl mt))] := hD
          refine lv_i2l (v := z_39.toInt64) hx hb d_Model_next_210 rfl ?_
          refine lv_ladd hx hb d_Model_next_211 ?_
          refine lv_goto (tgt := 219) hx hb d_Model_next_212 (by decide) ?_
          refine va_put (D := (dC, dI)) (ci := 8) (v := .long ((xv * 256) + z_39.toInt64)) (ty := .long) (C := "PermitRulesModel") (T := T_Model) (N := 40) hx hb htb in_Model ty_Model to_Model nm_Model hown hK hP hD hS 0 rfl rfl 6 (by decide) (htb _ mb_659) (fun _ h9 => h9) rfl (by decide +kernel) rfl rfl (Nat.le_of_ble_eq_true rfl) d_Model_next_219 (fun H locs hP hD hS => ?_)
          have hP : va_P (dC, dI) vwCl [(oM, .inr (8, [.int th, .ref mT, .int ml, .int xa, .int mk, .int xp, .long ((xv * 256) + z_39.toInt64), .int xw, .ref mN, .ref mD, .ref mF, .ref mS, .ref mL, .ref mR, .ref mE, .ref mK, .ref mV, .int dr, .int dc, .int ds, .int ru, .int cl, .ref mO, .int os, .int fc, .ref mA, .ref mB, .ref mU, .ref mW, .int pi, .int wh, .long ms, .int aq, .int da, .ref mX, .ref mY, .long lu, .long ld, .long qu, .long qd])), (mT, .inl (cI, 800, .inl mt))] H := hP
          have hD : va_D A [(oM, .inr (8, [.int th, .ref mT, .int ml, .int xa, .int mk, .int xp, .long ((xv * 256) + z_39.toInt64), .int xw, .ref mN, .ref mD, .ref mF, .ref mS, .ref mL, .ref mR, .ref mE, .ref mK, .ref mV, .int dr, .int dc, .int ds, .int ru, .int cl, .ref mO, .int os, .int fc, .ref mA, .ref mB, .ref mU, .ref mW, .int pi, .int wh, .long ms, .int aq, .int da, .ref mX, .ref mY, .long lu, .long ld, .long qu, .long qd])), (mT, .inl (cI, 800, .inl mt))] := hD
          refine lv_iinc (v := n_ + 1) (lv' := [(2, .int (n_ + 1)), (0, .ref oM)]) hx hb d_Model_next_222 hl (k := 0) rfl (by first | rfl | decide) (by decide) rfl (fun ls hl => ?_)
          refine lv_aload_n hx hb d_Model_next_225 rfl (lv_at hl 1 rfl) ?_
          refine lv_dup hx hb d_Model_next_226 rfl ?_
          refine va_get (D := (dC, dI)) (ci := 8) (v := .int xa) (C := "PermitRulesModel") (T := T_Model) (N := 40) hx hb htb in_Model hown hK hP 0 rfl rfl 3 (by decide) (htb _ mb_656) (fun _ h9 => h9) rfl d_Model_next_227 ?_
          refine lv_iconst (v := 1) hx hb d_Model_next_230 (by decide) ?_
          refine lv_iadd hx hb d_Model_next_231 ?_
          refine va_put (D := (dC, dI)) (ci := 8) (v := .int (xa + 1)) (ty := .int) (C := "PermitRulesModel") (T := T_Model) (N := 40) hx hb htb in_Model ty_Model to_Model nm_Model hown hK hP hD hS 0 rfl rfl 3 (by decide) (htb _ mb_656) (fun _ h9 => h9) rfl (by decide +kernel) rfl rfl (Nat.le_of_ble_eq_true rfl) d_Model_next_232 (fun H locs hP hD hS => ?_)
          have hP : va_P (dC, dI) vwCl [(oM, .inr (8, [.int th, .ref mT, .int ml, .int (xa + 1), .int mk, .int xp, .long ((xv * 256) + z_39.toInt64), .int xw, .ref mN, .ref mD, .ref mF, .ref mS, .ref mL, .ref mR, .ref mE, .ref mK, .ref mV, .int dr, .int dc, .int ds, .int ru, .int cl, .ref mO, .int os, .int fc, .ref mA, .ref mB, .ref mU, .ref mW, .int pi, .int wh, .long ms, .int aq, .int da, .ref mX, .ref mY, .long lu, .long ld, .long qu, .long qd])), (mT, .inl (cI, 800, .inl mt))] H := hP
          have hD : va_D A [(oM, .inr (8, [.int th, .ref mT, .int ml, .int (xa + 1), .int mk, .int xp, .long ((xv * 256) + z_39.toInt64), .int xw, .ref mN, .ref mD, .ref mF, .ref mS, .ref mL, .ref mR, .ref mE, .ref mK, .ref mV, .int dr, .int dc, .int ds, .int ru, .int cl, .ref mO, .int os, .int fc, .ref mA, .ref mB, .ref mU, .ref mW, .int pi, .int wh, .long ms, .int aq, .int da, .ref mX, .ref mY, .long lu, .long ld, .long qu, .long qd])), (mT, .inl (cI, 800, .inl mt))] := hD
          refine lv_goto (tgt := 176) hx hb d_Model_next_235 (by decide) ?_
          have e0 := me_lt hz_33 c_34
          exact ih (n_ + 1) (xa + 1) ((xv * 256) + z_39.toInt64) xp xw (by have q0 := (oi_addE (Eq.refl xa.toInt) (show (1 : Int32).toInt = 1 by decide) (by omega) (by omega)); omega) (by have q0 := (oi_addE (Eq.refl xa.toInt) (show (1 : Int32).toInt = 1 by decide) (by omega) (by omega)); omega) (by have q0 := (oi_addE (Eq.refl xa.toInt) (show (1 : Int32).toInt = 1 by decide) (by omega) (by omega)); omega) hF _ _ _ (hP.sub [0, 1] rfl) (hD.sub [0, 1] (by decide) rfl) hS (lv_sub hl [0, 1] rfl)
  have lp81 : ∀ (n : Nat) (n_ : Int32) (xa : Int32) (xv : Int64) (xp : Int32) (xw : Int32), 0 ≤ xa.toInt → xa.toInt ≤ 800 → (800 - xa.toInt).toNat < n → f_Model_next ml ma mv mw mt = f_Model_next_L81 ml ma mv mw mt n n_ xa xv xp xw → ∀ (H : Heap) (locs : List Loc) (ls : Array Slot), va_P (dC, dI) vwCl [(oM, .inr (8, [.int th, .ref mT, .int ml, .int xa, .int mk, .int xp, .long xv, .int xw, .ref mN, .ref mD, .ref mF, .ref mS, .ref mL, .ref mR, .ref mE, .ref mK, .ref mV, .int dr, .int dc, .int ds, .int ru, .int cl, .ref mO, .int os, .int fc, .ref mA, .ref mB, .ref mU, .ref mW, .int pi, .int wh, .long ms, .int aq, .int da, .ref mX, .ref mY, .long lu, .long ld, .long qu, .long qd])), (mT, .inl (cI, 800, .inl mt))] H → va_D A [(oM, .inr (8, [.int th, .ref mT, .int ml, .int xa, .int mk, .int xp, .long xv, .int xw, .ref mN, .ref mD, .ref mF, .ref mS, .ref mL, .ref mR, .ref mE, .ref mK, .ref mV, .int dr, .int dc, .int ds, .int ru, .int cl, .ref mO, .int os, .int fc, .ref mA, .ref mB, .ref mU, .ref mW, .int pi, .int wh, .long ms, .int aq, .int da, .ref mX, .ref mY, .long lu, .long ld, .long qu, .long qd])), (mT, .inl (cI, 800, .inl mt))] → va_S A s.heap H locs → lv_has ls 3 [(2, .int n_), (0, .ref oM)] → W p l e (headSpec (cw_Model_next :: bgw) { frames := 2, cells := 0, slots := 0, locals := 46 }).room s m ([.ref oM] : List Value).toArray below meth c H locs 0 0 (MQ below (q_Model_next dC dI cB cI cJ oM mT mN mD mF mS mL mR mE mK mV mO mA mB mU mW mX mY th ml ma mk mp mv mw dr dc ds ru cl os fc pi wh ms aq da lu ld qu qd mt A) ([.ref oM] : List Value).toArray s 0 0 A) (F0 m 81 ls []) := by
    intro n
    induction n with
    | zero => intro n_ xa xv xp xw i0 i1 hn; exact absurd hn (Nat.not_lt_zero _)
    | succ n ih =>
      intro n_ xa xv xp xw i0 i1 hn hF H locs ls hP hD hS hl
      have hF := hF.trans (f_Model_next_L81_s ml ma mv mw mt n n_ xa xv xp xw)
      refine lv_aload_n hx hb d_Model_next_81 rfl (lv_at hl 1 rfl) ?_
      refine lv_aload_n hx hb d_Model_next_82 rfl (lv_at hl 1 rfl) ?_
      refine va_get (D := (dC, dI)) (ci := 8) (v := .int xa) (C := "PermitRulesModel") (T := T_Model) (N := 40) hx hb htb in_Model hown hK hP 0 rfl rfl 3 (by decide) (htb _ mb_656) (fun _ h9 => h9) rfl d_Model_next_83 ?_
      have hPc := hP.sub (ws' := [(oM, .inr (8, [.int th, .ref mT, .int ml, .int xa, .int mk, .int xp, .long xv, .int xw, .ref mN, .ref mD, .ref mF, .ref mS, .ref mL, .ref mR, .ref mE, .ref mK, .ref mV, .int dr, .int dc, .int ds, .int ru, .int cl, .ref mO, .int os, .int fc, .ref mA, .ref mB, .ref mU, .ref mW, .int pi, .int wh, .long ms, .int aq, .int da, .ref mX, .ref mY, .long lu, .long ld, .long qu, .long qd])), (mT, .inl (cI, 800, .inl mt))]) [0, 1] rfl
      have hDc := hD.sub (ws' := [(oM, .inr (8, [.int th, .ref mT, .int ml, .int xa, .int mk, .int xp, .long xv, .int xw, .ref mN, .ref mD, .ref mF, .ref mS, .ref mL, .ref mR, .ref mE, .ref mK, .ref mV, .int dr, .int dc, .int ds, .int ru, .int cl, .ref mO, .int os, .int fc, .ref mA, .ref mB, .ref mU, .ref mW, .int pi, .int wh, .long ms, .int aq, .int da, .ref mX, .ref mY, .long lu, .long ld, .long qu, .long qd])), (mT, .inl (cI, 800, .inl mt))]) [0, 1] (by decide) rfl
      have hFc := va_free (wc := [(oM, .inr (8, [.int th, .ref mT, .int ml, .int xa, .int mk, .int xp, .long xv, .int xw, .ref mN, .ref mD, .ref mF, .ref mS, .ref mL, .ref mR, .ref mE, .ref mK, .ref mV, .int dr, .int dc, .int ds, .int ru, .int cl, .ref mO, .int os, .int fc, .ref mA, .ref mB, .ref mU, .ref mW, .int pi, .int wh, .long ms, .int aq, .int da, .ref mX, .ref mY, .long lu, .long ld, .long qu, .long qd])), (mT, .inl (cI, 800, .inl mt))]) hD hS hA [0, 1] rfl
      refine va_calli (va_runV (As := [.int xa]) (rest := []) ⟨hx, hb, hml, hown, htb⟩ (c_Model_isDigit l dC dI cB cI cJ oM mT mN mD mF mS mL mR mE mK mV mO mA mB mU mW mX mY _ xa th ml xa mk xp xv xw dr dc ds ru cl os fc pi wh ms aq da lu ld qu qd mt (by omega) (by omega)) ⟨callB_of 1 htb (gb_all mb_807) rfl rfl rfl (htb _ mb_9) (htb _ mb_804) (by decide +kernel) ⟨Nat.le_of_ble_eq_true rfl, Nat.le_of_ble_eq_true rfl⟩, htb _ mb_806, htb _ mp_19⟩ ⟨kb_blind, va_recv hK hPc (ci := 8) (q0 := 0) rfl rfl, kb_at hPc hDc hKx⟩ rfl rfl hl.1 rfl (lv_room (Nat.le_of_ble_eq_true rfl)) d_Model_next_86 ⟨Nat.le_of_ble_eq_true rfl, Nat.le_of_ble_eq_true rfl⟩) hS (fun q _ h => hFc q h) hFc (fun z_40 u t H1 locs ht hvm hw hB hz1 hk1 hS => ?_)
      have hz_40 := hw
      have hF := hF.trans (lt_e hz_40)
      obtain ⟨hP1, hD1⟩ := hB
      rw [ht] at hP1
      obtain ⟨hP, hD⟩ := va_join (wr := []) (w1 := [(oM, .inr (8, [.int th, .ref mT, .int ml, .int xa, .int mk, .int xp, .long xv, .int xw, .ref mN, .ref mD, .ref mF, .ref mS, .ref mL, .ref mR, .ref mE, .ref mK, .ref mV, .int dr, .int dc, .int ds, .int ru, .int cl, .ref mO, .int os, .int fc, .ref mA, .ref mB, .ref mU, .ref mW, .int pi, .int wh, .long ms, .int aq, .int da, .ref mX, .ref mY, .long lu, .long ld, .long qu, .long qd])), (mT, .inl (cI, 800, .inl mt))]) hP hD [0, 1] [] rfl rfl (by decide) (by decide) hk1 hFc hP1 hD1
      generalize H1 = H at hP hS ⊢
      have hP : va_P (dC, dI) vwCl [(oM, .inr (8, [.int th, .ref mT, .int ml, .int xa, .int mk, .int xp, .long xv, .int xw, .ref mN, .ref mD, .ref mF, .ref mS, .ref mL, .ref mR, .ref mE, .ref mK, .ref mV, .int dr, .int dc, .int ds, .int ru, .int cl, .ref mO, .int os, .int fc, .ref mA, .ref mB, .ref mU, .ref mW, .int pi, .int wh, .long ms, .int aq, .int da, .ref mX, .ref mY, .long lu, .long ld, .long qu, .long qd])), (mT, .inl (cI, 800, .inl mt))] H := hP
      have hD : va_D A [(oM, .inr (8, [.int th, .ref mT, .int ml, .int xa, .int mk, .int xp, .long xv, .int xw, .ref mN, .ref mD, .ref mF, .ref mS, .ref mL, .ref mR, .ref mE, .ref mK, .ref mV, .int dr, .int dc, .int ds, .int ru, .int cl, .ref mO, .int os, .int fc, .ref mA, .ref mB, .ref mU, .ref mW, .int pi, .int wh, .long ms, .int aq, .int da, .ref mX, .ref mY, .long lu, .long ld, .long qu, .long qd])), (mT, .inl (cI, 800, .inl mt))] := hD
      refine lv_if_eq (tgt := 147) hx hb d_Model_next_89 (by decide) (fun c_41 => ?_) (fun c_41 => ?_)
      · have hF := hF.trans (if_pos c_41)
        have tc_41 := ti_eq (Eq.refl z_40.toInt) (show (0 : Int32).toInt = 0 by decide) c_41
        refine lv_aload_n hx hb d_Model_next_147 rfl (lv_at hl 1 rfl) ?_
        refine lv_iload_n hx hb d_Model_next_148 rfl (lv_at hl 0 rfl) ?_
        refine lv_bipush (v := 9) hx hb d_Model_next_149 (by decide) ?_
        refine lv_icmp_le (tgt := 158) hx hb d_Model_next_151 (by decide) (fun c_42 => ?_) (fun c_42 => ?_)
        · have hF := hF.trans (if_pos c_42)
          have tc_42 := ti_le (Eq.refl n_.toInt) (show (9 : Int32).toInt = 9 by decide) c_42
          refine lv_iconst (v := 1) hx hb d_Model_next_158 (by decide) ?_
          refine va_put (D := (dC, dI)) (ci := 8) (v := .int 1) (ty := .int) (C := "PermitRulesModel") (T := T_Model) (N := 40) hx hb htb in_Model ty_Model to_Model nm_Model hown hK hP hD hS 0 rfl rfl 4 (by decide) (htb _ mb_657) (fun _ h9 => h9) rfl (by decide +kernel) rfl rfl (Nat.le_of_ble_eq_true rfl) d_Model_next_159 (fun H locs hP hD hS => ?_)
          have hP : va_P (dC, dI) vwCl [(oM, .inr (8, [.int th, .ref mT, .int ml, .int xa, .int 1, .int xp, .long xv, .int xw, .ref mN, .ref mD, .ref mF, .ref mS, .ref mL, .ref mR, .ref mE, .ref mK, .ref mV, .int dr, .int dc, .int ds, .int ru, .int cl, .ref mO, .int os, .int fc, .ref mA, .ref mB, .ref mU, .ref mW, .int pi, .int wh, .long ms, .int aq, .int da, .ref mX, .ref mY, .long lu, .long ld, .long qu, .long qd])), (mT, .inl (cI, 800, .inl mt))] H := hP
          have hD : va_D A [(oM, .inr (8, [.int th, .ref mT, .int ml, .int xa, .int 1, .int xp, .long xv, .int xw, .ref mN, .ref mD, .ref mF, .ref mS, .ref mL, .ref mR, .ref mE, .ref mK, .ref mV, .int dr, .int dc, .int ds, .int ru, .int cl, .ref mO, .int os, .int fc, .ref mA, .ref mB, .ref mU, .ref mW, .int pi, .int wh, .long ms, .int aq, .int da, .ref mX, .ref mY, .long lu, .long ld, .long qu, .long qd])), (mT, .inl (cI, 800, .inl mt))] := hD
          refine lv_goto (tgt := 326) hx hb d_Model_next_162 (by decide) ?_
          refine lv_aload_n hx hb d_Model_next_326 rfl (lv_at hl 1 rfl) ?_
          refine lv_aload_n hx hb d_Model_next_327 rfl (lv_at hl 1 rfl) ?_
          refine va_get (D := (dC, dI)) (ci := 8) (v := .int xw) (C := "PermitRulesModel") (T := T_Model) (N := 40) hx hb htb in_Model hown hK hP 0 rfl rfl 7 (by decide) (htb _ mb_660) (fun _ h9 => h9) rfl d_Model_next_328 ?_
          refine lv_bipush (v := 120) hx hb d_Model_next_331 (by decide) ?_
          refine lv_icmp_le (tgt := 340) hx hb d_Model_next_333 (by decide) (fun c_43 => ?_) (fun c_43 => ?_)
          · have hF := hF.trans (if_pos c_43)
            have tc_43 := ti_le (Eq.refl xw.toInt) (show (120 : Int32).toInt = 120 by decide) c_43
            refine lv_aload_n hx hb d_Model_next_340 rfl (lv_at hl 1 rfl) ?_
            refine va_get (D := (dC, dI)) (ci := 8) (v := .int 1) (C := "PermitRulesModel") (T := T_Model) (N := 40) hx hb htb in_Model hown hK hP 0 rfl rfl 4 (by decide) (htb _ mb_657) (fun _ h9 => h9) rfl d_Model_next_341 ?_
            refine va_put (D := (dC, dI)) (ci := 8) (v := .int 1) (ty := .int) (C := "PermitRulesModel") (T := T_Model) (N := 40) hx hb htb in_Model ty_Model to_Model nm_Model hown hK hP hD hS 0 rfl rfl 4 (by decide) (htb _ mb_657) (fun _ h9 => h9) rfl (by decide +kernel) rfl rfl (Nat.le_of_ble_eq_true rfl) d_Model_next_344 (fun H locs hP hD hS => ?_)
            have hP : va_P (dC, dI) vwCl [(oM, .inr (8, [.int th, .ref mT, .int ml, .int xa, .int 1, .int xp, .long xv, .int xw, .ref mN, .ref mD, .ref mF, .ref mS, .ref mL, .ref mR, .ref mE, .ref mK, .ref mV, .int dr, .int dc, .int ds, .int ru, .int cl, .ref mO, .int os, .int fc, .ref mA, .ref mB, .ref mU, .ref mW, .int pi, .int wh, .long ms, .int aq, .int da, .ref mX, .ref mY, .long lu, .long ld, .long qu, .long qd])), (mT, .inl (cI, 800, .inl mt))] H := hP
            have hD : va_D A [(oM, .inr (8, [.int th, .ref mT, .int ml, .int xa, .int 1, .int xp, .long xv, .int xw, .ref mN, .ref mD, .ref mF, .ref mS, .ref mL, .ref mR, .ref mE, .ref mK, .ref mV, .int dr, .int dc, .int ds, .int ru, .int cl, .ref mO, .int os, .int fc, .ref mA, .ref mB, .ref mU, .ref mW, .int pi, .int wh, .long ms, .int aq, .int da, .ref mX, .ref mY, .long lu, .long ld, .long qu, .long qd])), (mT, .inl (cI, 800, .inl mt))] := hD
            have hP9 := hP.sub (ws' := [(oM, .inr (8, [.int th, .ref mT, .int ml, .int xa, .int 1, .int xp, .long xv, .int xw, .ref mN, .ref mD, .ref mF, .ref mS, .ref mL, .ref mR, .ref mE, .ref mK, .ref mV, .int dr, .int dc, .int ds, .int ru, .int cl, .ref mO, .int os, .int fc, .ref mA, .ref mB, .ref mU, .ref mW, .int pi, .int wh, .long ms, .int aq, .int da, .ref mX, .ref mY, .long lu, .long ld, .long qu, .long qd])), (mT, .inl (cI, 800, .inl mt))]) [0, 1] rfl
            have hD9 := hD.sub (ws' := [(oM, .inr (8, [.int th, .ref mT, .int ml, .int xa, .int 1, .int xp, .long xv, .int xw, .ref mN, .ref mD, .ref mF, .ref mS, .ref mL, .ref mR, .ref mE, .ref mK, .ref mV, .int dr, .int dc, .int ds, .int ru, .int cl, .ref mO, .int os, .int fc, .ref mA, .ref mB, .ref mU, .ref mW, .int pi, .int wh, .long ms, .int aq, .int da, .ref mX, .ref mY, .long lu, .long ld, .long qu, .long qd])), (mT, .inl (cI, 800, .inl mt))]) [0, 1] (by decide) rfl
            exact W.vret hx hb hr (fun t ht hW => ⟨⟨(xa, 1, xp, xv, xw), rfl, by rw [hF], by rw [ht]; exact hP9, hD9⟩, hS.F ht⟩) hS.2.2 d_Model_next_347
          · have hF := hF.trans (if_neg c_43)
            have tc_43 := ti_nle (Eq.refl xw.toInt) (show (120 : Int32).toInt = 120 by decide) c_43
            refine lv_iconst (v := 3) hx hb d_Model_next_336 (by decide) ?_
            refine lv_goto (tgt := 344) hx hb d_Model_next_337 (by decide) ?_
            refine va_put (D := (dC, dI)) (ci := 8) (v := .int 3) (ty := .int) (C := "PermitRulesModel") (T := T_Model) (N := 40) hx hb htb in_Model ty_Model to_Model nm_Model hown hK hP hD hS 0 rfl rfl 4 (by decide) (htb _ mb_657) (fun _ h9 => h9) rfl (by decide +kernel) rfl rfl (Nat.le_of_ble_eq_true rfl) d_Model_next_344 (fun H locs hP hD hS => ?_)
            have hP : va_P (dC, dI) vwCl [(oM, .inr (8, [.int th, .ref mT, .int ml, .int xa, .int 3, .int xp, .long xv, .int xw, .ref mN, .ref mD, .ref mF, .ref mS, .ref mL, .ref mR, .ref mE, .ref mK, .ref mV, .int dr, .int dc, .int ds, .int ru, .int cl, .ref mO, .int os, .int fc, .ref mA, .ref mB, .ref mU, .ref mW, .int pi, .int wh, .long ms, .int aq, .int da, .ref mX, .ref mY, .long lu, .long ld, .long qu, .long qd])), (mT, .inl (cI, 800, .inl mt))] H := hP
            have hD : va_D A [(oM, .inr (8, [.int th, .ref mT, .int ml, .int xa, .int 3, .int xp, .long xv, .int xw, .ref mN, .ref mD, .ref mF, .ref mS, .ref mL, .ref mR, .ref mE, .ref mK, .ref mV, .int dr, .int dc, .int ds, .int ru, .int cl, .ref mO, .int os, .int fc, .ref mA, .ref mB, .ref mU, .ref mW, .int pi, .int wh, .long ms, .int aq, .int da, .ref mX, .ref mY, .long lu, .long ld, .long qu, .long qd])), (mT, .inl (cI, 800, .inl mt))] := hD
            have hP9 := hP.sub (ws' := [(oM, .inr (8, [.int th, .ref mT, .int ml, .int xa, .int 3, .int xp, .long xv, .int xw, .ref mN, .ref mD, .ref mF, .ref mS, .ref mL, .ref mR, .ref mE, .ref mK, .ref mV, .int dr, .int dc, .int ds, .int ru, .int cl, .ref mO, .int os, .int fc, .ref mA, .ref mB, .ref mU, .ref mW, .int pi, .int wh, .long ms, .int aq, .int da, .ref mX, .ref mY, .long lu, .long ld, .long qu, .long qd])), (mT, .inl (cI, 800, .inl mt))]) [0, 1] rfl
            have hD9 := hD.sub (ws' := [(oM, .inr (8, [.int th, .ref mT, .int ml, .int xa, .int 3, .int xp, .long xv, .int xw, .ref mN, .ref mD, .ref mF, .ref mS, .ref mL, .ref mR, .ref mE, .ref mK, .ref mV, .int dr, .int dc, .int ds, .int ru, .int cl, .ref mO, .int os, .int fc, .ref mA, .ref mB, .ref mU, .ref mW, .int pi, .int wh, .long ms, .int aq, .int da, .ref mX, .ref mY, .long lu, .long ld, .long qu, .long qd])), (mT, .inl (cI, 800, .inl mt))]) [0, 1] (by decide) rfl
            exact W.vret hx hb hr (fun t ht hW => ⟨⟨(xa, 3, xp, xv, xw), rfl, by rw [hF], by rw [ht]; exact hP9, hD9⟩, hS.F ht⟩) hS.2.2 d_Model_next_347
        · have hF := hF.trans (if_neg c_42)
          have tc_42 := ti_nle (Eq.refl n_.toInt) (show (9 : Int32).toInt = 9 by decide) c_42
          refine lv_iconst (v := 3) hx hb d_Model_next_154 (by decide) ?_
          refine lv_goto (tgt := 159) hx hb d_Model_next_155 (by decide) ?_
          refine va_put (D := (dC, dI)) (ci := 8) (v := .int 3) (ty := .int) (C := "PermitRulesModel") (T := T_Model) (N := 40) hx hb htb in_Model ty_Model to_Model nm_Model hown hK hP hD hS 0 rfl rfl 4 (by decide) (htb _ mb_657) (fun _ h9 => h9) rfl (by decide +kernel) rfl rfl (Nat.le_of_ble_eq_true rfl) d_Model_next_159 (fun H locs hP hD hS => ?_)
          have hP : va_P (dC, dI) vwCl [(oM, .inr (8, [.int th, .ref mT, .int ml, .int xa, .int 3, .int xp, .long xv, .int xw, .ref mN, .ref mD, .ref mF, .ref mS, .ref mL, .ref mR, .ref mE, .ref mK, .ref mV, .int dr, .int dc, .int ds, .int ru, .int cl, .ref mO, .int os, .int fc, .ref mA, .ref mB, .ref mU, .ref mW, .int pi, .int wh, .long ms, .int aq, .int da, .ref mX, .ref mY, .long lu, .long ld, .long qu, .long qd])), (mT, .inl (cI, 800, .inl mt))] H := hP
          have hD : va_D A [(oM, .inr (8, [.int th, .ref mT, .int ml, .int xa, .int 3, .int xp, .long xv, .int xw, .ref mN, .ref mD, .ref mF, .ref mS, .ref mL, .ref mR, .ref mE, .ref mK, .ref mV, .int dr, .int dc, .int ds, .int ru, .int cl, .ref mO, .int os, .int fc, .ref mA, .ref mB, .ref mU, .ref mW, .int pi, .int wh, .long ms, .int aq, .int da, .ref mX, .ref mY, .long lu, .long ld, .long qu, .long qd])), (mT, .inl (cI, 800, .inl mt))] := hD
          refine lv_goto (tgt := 326) hx hb d_Model_next_162 (by decide) ?_
          refine lv_aload_n hx hb d_Model_next_326 rfl (lv_at hl 1 rfl) ?_
          refine lv_aload_n hx hb d_Model_next_327 rfl (lv_at hl 1 rfl) ?_
          refine va_get (D := (dC, dI)) (ci := 8) (v := .int xw) (C := "PermitRulesModel") (T := T_Model) (N := 40) hx hb htb in_Model hown hK hP 0 rfl rfl 7 (by decide) (htb _ mb_660) (fun _ h9 => h9) rfl d_Model_next_328 ?_
          refine lv_bipush (v := 120) hx hb d_Model_next_331 (by decide) ?_
          refine lv_icmp_le (tgt := 340) hx hb d_Model_next_333 (by decide) (fun c_44 => ?_) (fun c_44 => ?_)
          · have hF := hF.trans (if_pos c_44)
            have tc_44 := ti_le (Eq.refl xw.toInt) (show (120 : Int32).toInt = 120 by decide) c_44
            refine lv_aload_n hx hb d_Model_next_340 rfl (lv_at hl 1 rfl) ?_
            refine va_get (D := (dC, dI)) (ci := 8) (v := .int 3) (C := "PermitRulesModel") (T := T_Model) (N := 40) hx hb htb in_Model hown hK hP 0 rfl rfl 4 (by decide) (htb _ mb_657) (fun _ h9 => h9) rfl d_Model_next_341 ?_
            refine va_put (D := (dC, dI)) (ci := 8) (v := .int 3) (ty := .int) (C := "PermitRulesModel") (T := T_Model) (N := 40) hx hb htb in_Model ty_Model to_Model nm_Model hown hK hP hD hS 0 rfl rfl 4 (by decide) (htb _ mb_657) (fun _ h9 => h9) rfl (by decide +kernel) rfl rfl (Nat.le_of_ble_eq_true rfl) d_Model_next_344 (fun H locs hP hD hS => ?_)
            have hP : va_P (dC, dI) vwCl [(oM, .inr (8, [.int th, .ref mT, .int ml, .int xa, .int 3, .int xp, .long xv, .int xw, .ref mN, .ref mD, .ref mF, .ref mS, .ref mL, .ref mR, .ref mE, .ref mK, .ref mV, .int dr, .int dc, .int ds, .int ru, .int cl, .ref mO, .int os, .int fc, .ref mA, .ref mB, .ref mU, .ref mW, .int pi, .int wh, .long ms, .int aq, .int da, .ref mX, .ref mY, .long lu, .long ld, .long qu, .long qd])), (mT, .inl (cI, 800, .inl mt))] H := hP
            have hD : va_D A [(oM, .inr (8, [.int th, .ref mT, .int ml, .int xa, .int 3, .int xp, .long xv, .int xw, .ref mN, .ref mD, .ref mF, .ref mS, .ref mL, .ref mR, .ref mE, .ref mK, .ref mV, .int dr, .int dc, .int ds, .int ru, .int cl, .ref mO, .int os, .int fc, .ref mA, .ref mB, .ref mU, .ref mW, .int pi, .int wh, .long ms, .int aq, .int da, .ref mX, .ref mY, .long lu, .long ld, .long qu, .long qd])), (mT, .inl (cI, 800, .inl mt))] := hD
            have hP9 := hP.sub (ws' := [(oM, .inr (8, [.int th, .ref mT, .int ml, .int xa, .int 3, .int xp, .long xv, .int xw, .ref mN, .ref mD, .ref mF, .ref mS, .ref mL, .ref mR, .ref mE, .ref mK, .ref mV, .int dr, .int dc, .int ds, .int ru, .int cl, .ref mO, .int os, .int fc, .ref mA, .ref mB, .ref mU, .ref mW, .int pi, .int wh, .long ms, .int aq, .int da, .ref mX, .ref mY, .long lu, .long ld, .long qu, .long qd])), (mT, .inl (cI, 800, .inl mt))]) [0, 1] rfl
            have hD9 := hD.sub (ws' := [(oM, .inr (8, [.int th, .ref mT, .int ml, .int xa, .int 3, .int xp, .long xv, .int xw, .ref mN, .ref mD, .ref mF, .ref mS, .ref mL, .ref mR, .ref mE, .ref mK, .ref mV, .int dr, .int dc, .int ds, .int ru, .int cl, .ref mO, .int os, .int fc, .ref mA, .ref mB, .ref mU, .ref mW, .int pi, .int wh, .long ms, .int aq, .int da, .ref mX, .ref mY, .long lu, .long ld, .long qu, .long qd])), (mT, .inl (cI, 800, .inl mt))]) [0, 1] (by decide) rfl
            exact W.vret hx hb hr (fun t ht hW => ⟨⟨(xa, 3, xp, xv, xw), rfl, by rw [hF], by rw [ht]; exact hP9, hD9⟩, hS.F ht⟩) hS.2.2 d_Model_next_347
          · have hF := hF.trans (if_neg c_44)
            have tc_44 := ti_nle (Eq.refl xw.toInt) (show (120 : Int32).toInt = 120 by decide) c_44
            refine lv_iconst (v := 3) hx hb d_Model_next_336 (by decide) ?_
            refine lv_goto (tgt := 344) hx hb d_Model_next_337 (by decide) ?_
            refine va_put (D := (dC, dI)) (ci := 8) (v := .int 3) (ty := .int) (C := "PermitRulesModel") (T := T_Model) (N := 40) hx hb htb in_Model ty_Model to_Model nm_Model hown hK hP hD hS 0 rfl rfl 4 (by decide) (htb _ mb_657) (fun _ h9 => h9) rfl (by decide +kernel) rfl rfl (Nat.le_of_ble_eq_true rfl) d_Model_next_344 (fun H locs hP hD hS => ?_)
            have hP : va_P (dC, dI) vwCl [(oM, .inr (8, [.int th, .ref mT, .int ml, .int xa, .int 3, .int xp, .long xv, .int xw, .ref mN, .ref mD, .ref mF, .ref mS, .ref mL, .ref mR, .ref mE, .ref mK, .ref mV, .int dr, .int dc, .int ds, .int ru, .int cl, .ref mO, .int os, .int fc, .ref mA, .ref mB, .ref mU, .ref mW, .int pi, .int wh, .long ms, .int aq, .int da, .ref mX, .ref mY, .long lu, .long ld, .long qu, .long qd])), (mT, .inl (cI, 800, .inl mt))] H := hP
            have hD : va_D A [(oM, .inr (8, [.int th, .ref mT, .int ml, .int xa, .int 3, .int xp, .long xv, .int xw, .ref mN, .ref mD, .ref mF, .ref mS, .ref mL, .ref mR, .ref mE, .ref mK, .ref mV, .int dr, .int dc, .int ds, .int ru, .int cl, .ref mO, .int os, .int fc, .ref mA, .ref mB, .ref mU, .ref mW, .int pi, .int wh, .long ms, .int aq, .int da, .ref mX, .ref mY, .long lu, .long ld, .long qu, .long qd])), (mT, .inl (cI, 800, .inl mt))] := hD
            have hP9 := hP.sub (ws' := [(oM, .inr (8, [.int th, .ref mT, .int ml, .int xa, .int 3, .int xp, .long xv, .int xw, .ref mN, .ref mD, .ref mF, .ref mS, .ref mL, .ref mR, .ref mE, .ref mK, .ref mV, .int dr, .int dc, .int ds, .int ru, .int cl, .ref mO, .int os, .int fc, .ref mA, .ref mB, .ref mU, .ref mW, .int pi, .int wh, .long ms, .int aq, .int da, .ref mX, .ref mY, .long lu, .long ld, .long qu, .long qd])), (mT, .inl (cI, 800, .inl mt))]) [0, 1] rfl
            have hD9 := hD.sub (ws' := [(oM, .inr (8, [.int th, .ref mT, .int ml, .int xa, .int 3, .int xp, .long xv, .int xw, .ref mN, .ref mD, .ref mF, .ref mS, .ref mL, .ref mR, .ref mE, .ref mK, .ref mV, .int dr, .int dc, .int ds, .int ru, .int cl, .ref mO, .int os, .int fc, .ref mA, .ref mB, .ref mU, .ref mW, .int pi, .int wh, .long ms, .int aq, .int da, .ref mX, .ref mY, .long lu, .long ld, .long qu, .long qd])), (mT, .inl (cI, 800, .inl mt))]) [0, 1] (by decide) rfl
            exact W.vret hx hb hr (fun t ht hW => ⟨⟨(xa, 3, xp, xv, xw), rfl, by rw [hF], by rw [ht]; exact hP9, hD9⟩, hS.F ht⟩) hS.2.2 d_Model_next_347
      · have hF := hF.trans (if_neg c_41)
        have tc_41 := ti_ne (Eq.refl z_40.toInt) (show (0 : Int32).toInt = 0 by decide) c_41
        refine lv_aload_n hx hb d_Model_next_92 rfl (lv_at hl 1 rfl) ?_
        refine lv_iload_n hx hb d_Model_next_93 rfl (lv_at hl 0 rfl) ?_
        refine lv_bipush (v := 9) hx hb d_Model_next_94 (by decide) ?_
        refine lv_icmp_ge (tgt := 124) hx hb d_Model_next_96 (by decide) (fun c_45 => ?_) (fun c_45 => ?_)
        · have hF := hF.trans (if_pos c_45)
          have tc_45 := ti_le (show (9 : Int32).toInt = 9 by decide) (Eq.refl n_.toInt) c_45
          refine lv_aload_n hx hb d_Model_next_124 rfl (lv_at hl 1 rfl) ?_
          refine va_get (D := (dC, dI)) (ci := 8) (v := .long xv) (C := "PermitRulesModel") (T := T_Model) (N := 40) hx hb htb in_Model hown hK hP 0 rfl rfl 6 (by decide) (htb _ mb_659) (fun _ h9 => h9) rfl d_Model_next_125 ?_
          refine va_put (D := (dC, dI)) (ci := 8) (v := .long xv) (ty := .long) (C := "PermitRulesModel") (T := T_Model) (N := 40) hx hb htb in_Model ty_Model to_Model nm_Model hown hK hP hD hS 0 rfl rfl 6 (by decide) (htb _ mb_659) (fun _ h9 => h9) rfl (by decide +kernel) rfl rfl (Nat.le_of_ble_eq_true rfl) d_Model_next_128 (fun H locs hP hD hS => ?_)
          have hP : va_P (dC, dI) vwCl [(oM, .inr (8, [.int th, .ref mT, .int ml, .int xa, .int mk, .int xp, .long xv, .int xw, .ref mN, .ref mD, .ref mF, .ref mS, .ref mL, .ref mR, .ref mE, .ref mK, .ref mV, .int dr, .int dc, .int ds, .int ru, .int cl, .ref mO, .int os, .int fc, .ref mA, .ref mB, .ref mU, .ref mW, .int pi, .int wh, .long ms, .int aq, .int da, .ref mX, .ref mY, .long lu, .long ld, .long qu, .long qd])), (mT, .inl (cI, 800, .inl mt))] H := hP
          have hD : va_D A [(oM, .inr (8, [.int th, .ref mT, .int ml, .int xa, .int mk, .int xp, .long xv, .int xw, .ref mN, .ref mD, .ref mF, .ref mS, .ref mL, .ref mR, .ref mE, .ref mK, .ref mV, .int dr, .int dc, .int ds, .int ru, .int cl, .ref mO, .int os, .int fc, .ref mA, .ref mB, .ref mU, .ref mW, .int pi, .int wh, .long ms, .int aq, .int da, .ref mX, .ref mY, .long lu, .long ld, .long qu, .long qd])), (mT, .inl (cI, 800, .inl mt))] := hD
          refine lv_iinc (v := n_ + 1) (lv' := [(2, .int (n_ + 1)), (0, .ref oM)]) hx hb d_Model_next_131 hl (k := 0) rfl (by first | rfl | decide) (by decide) rfl (fun ls hl => ?_)
          refine lv_aload_n hx hb d_Model_next_134 rfl (lv_at hl 1 rfl) ?_
          refine lv_dup hx hb d_Model_next_135 rfl ?_
          refine va_get (D := (dC, dI)) (ci := 8) (v := .int xa) (C := "PermitRulesModel") (T := T_Model) (N := 40) hx hb htb in_Model hown hK hP 0 rfl rfl 3 (by decide) (htb _ mb_656) (fun _ h9 => h9) rfl d_Model_next_136 ?_
          refine lv_iconst (v := 1) hx hb d_Model_next_139 (by decide) ?_
          refine lv_iadd hx hb d_Model_next_140 ?_
          refine va_put (D := (dC, dI)) (ci := 8) (v := .int (xa + 1)) (ty := .int) (C := "PermitRulesModel") (T := T_Model) (N := 40) hx hb htb in_Model ty_Model to_Model nm_Model hown hK hP hD hS 0 rfl rfl 3 (by decide) (htb _ mb_656) (fun _ h9 => h9) rfl (by decide +kernel) rfl rfl (Nat.le_of_ble_eq_true rfl) d_Model_next_141 (fun H locs hP hD hS => ?_)
          have hP : va_P (dC, dI) vwCl [(oM, .inr (8, [.int th, .ref mT, .int ml, .int (xa + 1), .int mk, .int xp, .long xv, .int xw, .ref mN, .ref mD, .ref mF, .ref mS, .ref mL, .ref mR, .ref mE, .ref mK, .ref mV, .int dr, .int dc, .int ds, .int ru, .int cl, .ref mO, .int os, .int fc, .ref mA, .ref mB, .ref mU, .ref mW, .int pi, .int wh, .long ms, .int aq, .int da, .ref mX, .ref mY, .long lu, .long ld, .long qu, .long qd])), (mT, .inl (cI, 800, .inl mt))] H := hP
          have hD : va_D A [(oM, .inr (8, [.int th, .ref mT, .int ml, .int (xa + 1), .int mk, .int xp, .long xv, .int xw, .ref mN, .ref mD, .ref mF, .ref mS, .ref mL, .ref mR, .ref mE, .ref mK, .ref mV, .int dr, .int dc, .int ds, .int ru, .int cl, .ref mO, .int os, .int fc, .ref mA, .ref mB, .ref mU, .ref mW, .int pi, .int wh, .long ms, .int aq, .int da, .ref mX, .ref mY, .long lu, .long ld, .long qu, .long qd])), (mT, .inl (cI, 800, .inl mt))] := hD
          refine lv_goto (tgt := 81) hx hb d_Model_next_144 (by decide) ?_
          have e0 := md_lt hz_40 c_41
          exact ih (n_ + 1) (xa + 1) xv xp xw (by have q0 := (oi_addE (Eq.refl xa.toInt) (show (1 : Int32).toInt = 1 by decide) (by omega) (by omega)); omega) (by have q0 := (oi_addE (Eq.refl xa.toInt) (show (1 : Int32).toInt = 1 by decide) (by omega) (by omega)); omega) (by have q0 := (oi_addE (Eq.refl xa.toInt) (show (1 : Int32).toInt = 1 by decide) (by omega) (by omega)); omega) hF _ _ _ (hP.sub [0, 1] rfl) (hD.sub [0, 1] (by decide) rfl) hS (lv_sub hl [0, 1] rfl)
        · have hF := hF.trans (if_neg c_45)
          have tc_45 := ti_nle (show (9 : Int32).toInt = 9 by decide) (Eq.refl n_.toInt) c_45
          refine lv_ldc2 (v := 10) hx hb hown (htb _ mb_810) d_Model_next_99 ?_
          refine lv_aload_n hx hb d_Model_next_102 rfl (lv_at hl 1 rfl) ?_
          refine va_get (D := (dC, dI)) (ci := 8) (v := .long xv) (C := "PermitRulesModel") (T := T_Model) (N := 40) hx hb htb in_Model hown hK hP 0 rfl rfl 6 (by decide) (htb _ mb_659) (fun _ h9 => h9) rfl d_Model_next_103 ?_
          refine lv_lmul hx hb d_Model_next_106 ?_
          refine lv_aload_n hx hb d_Model_next_107 rfl (lv_at hl 1 rfl) ?_
          refine lv_aload_n hx hb d_Model_next_108 rfl (lv_at hl 1 rfl) ?_
          refine va_get (D := (dC, dI)) (ci := 8) (v := .int xa) (C := "PermitRulesModel") (T := T_Model) (N := 40) hx hb htb in_Model hown hK hP 0 rfl rfl 3 (by decide) (htb _ mb_656) (fun _ h9 => h9) rfl d_Model_next_109 ?_
          have hPc := hP.sub (ws' := [(oM, .inr (8, [.int th, .ref mT, .int ml, .int xa, .int mk, .int xp, .long xv, .int xw, .ref mN, .ref mD, .ref mF, .ref mS, .ref mL, .ref mR, .ref mE, .ref mK, .ref mV, .int dr, .int dc, .int ds, .int ru, .int cl, .ref mO, .int os, .int fc, .ref mA, .ref mB, .ref mU, .ref mW, .int pi, .int wh, .long ms, .int aq, .int da, .ref mX, .ref mY, .long lu, .long ld, .long qu, .long qd])), (mT, .inl (cI, 800, .inl mt))]) [0, 1] rfl
          have hDc := hD.sub (ws' := [(oM, .inr (8, [.int th, .ref mT, .int ml, .int xa, .int mk, .int xp, .long xv, .int xw, .ref mN, .ref mD, .ref mF, .ref mS, .ref mL, .ref mR, .ref mE, .ref mK, .ref mV, .int dr, .int dc, .int ds, .int ru, .int cl, .ref mO, .int os, .int fc, .ref mA, .ref mB, .ref mU, .ref mW, .int pi, .int wh, .long ms, .int aq, .int da, .ref mX, .ref mY, .long lu, .long ld, .long qu, .long qd])), (mT, .inl (cI, 800, .inl mt))]) [0, 1] (by decide) rfl
          have hFc := va_free (wc := [(oM, .inr (8, [.int th, .ref mT, .int ml, .int xa, .int mk, .int xp, .long xv, .int xw, .ref mN, .ref mD, .ref mF, .ref mS, .ref mL, .ref mR, .ref mE, .ref mK, .ref mV, .int dr, .int dc, .int ds, .int ru, .int cl, .ref mO, .int os, .int fc, .ref mA, .ref mB, .ref mU, .ref mW, .int pi, .int wh, .long ms, .int aq, .int da, .ref mX, .ref mY, .long lu, .long ld, .long qu, .long qd])), (mT, .inl (cI, 800, .inl mt))]) hD hS hA [0, 1] rfl
          refine va_calli (va_runV (As := [.int xa]) (rest := [.long (10 * xv), .ref oM]) ⟨hx, hb, hml, hown, htb⟩ (c_Model_character l dC dI cB cI cJ oM mT mN mD mF mS mL mR mE mK mV mO mA mB mU mW mX mY _ xa th ml xa mk xp xv xw dr dc ds ru cl os fc pi wh ms aq da lu ld qu qd mt (by omega) (by omega)) ⟨callB_of 1 htb (gb_all mb_803) rfl rfl rfl (htb _ mb_9) (htb _ mb_800) (by decide +kernel) ⟨Nat.le_of_ble_eq_true rfl, Nat.le_of_ble_eq_true rfl⟩, htb _ mb_802, htb _ mp_18⟩ ⟨kb_blind, va_recv hK hPc (ci := 8) (q0 := 0) rfl rfl, kb_at hPc hDc hKx⟩ rfl rfl hl.1 rfl (lv_room (Nat.le_of_ble_eq_true rfl)) d_Model_next_112 ⟨Nat.le_of_ble_eq_true rfl, Nat.le_of_ble_eq_true rfl⟩) hS (fun q _ h => hFc q h) hFc (fun z_46 u t H1 locs ht hvm hw hB hz1 hk1 hS => ?_)
          have hz_46 := hw
          have hF := hF.trans (lt_e hz_46)
          obtain ⟨hP1, hD1⟩ := hB
          rw [ht] at hP1
          obtain ⟨hP, hD⟩ := va_join (wr := []) (w1 := [(oM, .inr (8, [.int th, .ref mT, .int ml, .int xa, .int mk, .int xp, .long xv, .int xw, .ref mN, .ref mD, .ref mF, .ref mS, .ref mL, .ref mR, .ref mE, .ref mK, .ref mV, .int dr, .int dc, .int ds, .int ru, .int cl, .ref mO, .int os, .int fc, .ref mA, .ref mB, .ref mU, .ref mW, .int pi, .int wh, .long ms, .int aq, .int da, .ref mX, .ref mY, .long lu, .long ld, .long qu, .long qd])), (mT, .inl (cI, 800, .inl mt))]) hP hD [0, 1] [] rfl rfl (by decide) (by decide) hk1 hFc hP1 hD1
          generalize H1 = H at hP hS ⊢
          have hP : va_P (dC, dI) vwCl [(oM, .inr (8, [.int th, .ref mT, .int ml, .int xa, .int mk, .int xp, .long xv, .int xw, .ref mN, .ref mD, .ref mF, .ref mS, .ref mL, .ref mR, .ref mE, .ref mK, .ref mV, .int dr, .int dc, .int ds, .int ru, .int cl, .ref mO, .int os, .int fc, .ref mA, .ref mB, .ref mU, .ref mW, .int pi, .int wh, .long ms, .int aq, .int da, .ref mX, .ref mY, .long lu, .long ld, .long qu, .long qd])), (mT, .inl (cI, 800, .inl mt))] H := hP
          have hD : va_D A [(oM, .inr (8, [.int th, .ref mT, .int ml, .int xa, .int mk, .int xp, .long xv, .int xw, .ref mN, .ref mD, .ref mF, .ref mS, .ref mL, .ref mR, .ref mE, .ref mK, .ref mV, .int dr, .int dc, .int ds, .int ru, .int cl, .ref mO, .int os, .int fc, .ref mA, .ref mB, .ref mU, .ref mW, .int pi, .int wh, .long ms, .int aq, .int da, .ref mX, .ref mY, .long lu, .long ld, .long qu, .long qd])), (mT, .inl (cI, 800, .inl mt))] := hD
          refine lv_i2l (v := z_46.toInt64) hx hb d_Model_next_115 rfl ?_
          refine lv_ladd hx hb d_Model_next_116 ?_
          refine lv_ldc2 (v := 48) hx hb hown (htb _ mb_808) d_Model_next_117 ?_
          refine lv_lsub hx hb d_Model_next_120 ?_
          refine lv_goto (tgt := 128) hx hb d_Model_next_121 (by decide) ?_
          refine va_put (D := (dC, dI)) (ci := 8) (v := .long (((10 * xv) + z_46.toInt64) - 48)) (ty := .long) (C := "PermitRulesModel") (T := T_Model) (N := 40) hx hb htb in_Model ty_Model to_Model nm_Model hown hK hP hD hS 0 rfl rfl 6 (by decide) (htb _ mb_659) (fun _ h9 => h9) rfl (by decide +kernel) rfl rfl (Nat.le_of_ble_eq_true rfl) d_Model_next_128 (fun H locs hP hD hS => ?_)
          have hP : va_P (dC, dI) vwCl [(oM, .inr (8, [.int th, .ref mT, .int ml, .int xa, .int mk, .int xp, .long (((10 * xv) + z_46.toInt64) - 48), .int xw, .ref mN, .ref mD, .ref mF, .ref mS, .ref mL, .ref mR, .ref mE, .ref mK, .ref mV, .int dr, .int dc, .int ds, .int ru, .int cl, .ref mO, .int os, .int fc, .ref mA, .ref mB, .ref mU, .ref mW, .int pi, .int wh, .long ms, .int aq, .int da, .ref mX, .ref mY, .long lu, .long ld, .long qu, .long qd])), (mT, .inl (cI, 800, .inl mt))] H := hP
          have hD : va_D A [(oM, .inr (8, [.int th, .ref mT, .int ml, .int xa, .int mk, .int xp, .long (((10 * xv) + z_46.toInt64) - 48), .int xw, .ref mN, .ref mD, .ref mF, .ref mS, .ref mL, .ref mR, .ref mE, .ref mK, .ref mV, .int dr, .int dc, .int ds, .int ru, .int cl, .ref mO, .int os, .int fc, .ref mA, .ref mB, .ref mU, .ref mW, .int pi, .int wh, .long ms, .int aq, .int da, .ref mX, .ref mY, .long lu, .long ld, .long qu, .long qd])), (mT, .inl (cI, 800, .inl mt))] := hD
          refine lv_iinc (v := n_ + 1) (lv' := [(2, .int (n_ + 1)), (0, .ref oM)]) hx hb d_Model_next_131 hl (k := 0) rfl (by first | rfl | decide) (by decide) rfl (fun ls hl => ?_)
          refine lv_aload_n hx hb d_Model_next_134 rfl (lv_at hl 1 rfl) ?_
          refine lv_dup hx hb d_Model_next_135 rfl ?_
          refine va_get (D := (dC, dI)) (ci := 8) (v := .int xa) (C := "PermitRulesModel") (T := T_Model) (N := 40) hx hb htb in_Model hown hK hP 0 rfl rfl 3 (by decide) (htb _ mb_656) (fun _ h9 => h9) rfl d_Model_next_136 ?_
          refine lv_iconst (v := 1) hx hb d_Model_next_139 (by decide) ?_
          refine lv_iadd hx hb d_Model_next_140 ?_
          refine va_put (D := (dC, dI)) (ci := 8) (v := .int (xa + 1)) (ty := .int) (C := "PermitRulesModel") (T := T_Model) (N := 40) hx hb htb in_Model ty_Model to_Model nm_Model hown hK hP hD hS 0 rfl rfl 3 (by decide) (htb _ mb_656) (fun _ h9 => h9) rfl (by decide +kernel) rfl rfl (Nat.le_of_ble_eq_true rfl) d_Model_next_141 (fun H locs hP hD hS => ?_)
          have hP : va_P (dC, dI) vwCl [(oM, .inr (8, [.int th, .ref mT, .int ml, .int (xa + 1), .int mk, .int xp, .long (((10 * xv) + z_46.toInt64) - 48), .int xw, .ref mN, .ref mD, .ref mF, .ref mS, .ref mL, .ref mR, .ref mE, .ref mK, .ref mV, .int dr, .int dc, .int ds, .int ru, .int cl, .ref mO, .int os, .int fc, .ref mA, .ref mB, .ref mU, .ref mW, .int pi, .int wh, .long ms, .int aq, .int da, .ref mX, .ref mY, .long lu, .long ld, .long qu, .long qd])), (mT, .inl (cI, 800, .inl mt))] H := hP
          have hD : va_D A [(oM, .inr (8, [.int th, .ref mT, .int ml, .int (xa + 1), .int mk, .int xp, .long (((10 * xv) + z_46.toInt64) - 48), .int xw, .ref mN, .ref mD, .ref mF, .ref mS, .ref mL, .ref mR, .ref mE, .ref mK, .ref mV, .int dr, .int dc, .int ds, .int ru, .int cl, .ref mO, .int os, .int fc, .ref mA, .ref mB, .ref mU, .ref mW, .int pi, .int wh, .long ms, .int aq, .int da, .ref mX, .ref mY, .long lu, .long ld, .long qu, .long qd])), (mT, .inl (cI, 800, .inl mt))] := hD
          refine lv_goto (tgt := 81) hx hb d_Model_next_144 (by decide) ?_
          have e0 := md_lt hz_40 c_41
          exact ih (n_ + 1) (xa + 1) (((10 * xv) + z_46.toInt64) - 48) xp xw (by have q0 := (oi_addE (Eq.refl xa.toInt) (show (1 : Int32).toInt = 1 by decide) (by omega) (by omega)); omega) (by have q0 := (oi_addE (Eq.refl xa.toInt) (show (1 : Int32).toInt = 1 by decide) (by omega) (by omega)); omega) (by have q0 := (oi_addE (Eq.refl xa.toInt) (show (1 : Int32).toInt = 1 by decide) (by omega) (by omega)); omega) hF _ _ _ (hP.sub [0, 1] rfl) (hD.sub [0, 1] (by decide) rfl) hS (lv_sub hl [0, 1] rfl)
  have lp0 : ∀ (n : Nat) (xa : Int32), 0 ≤ xa.toInt → xa.toInt ≤ 800 → (800 - xa.toInt).toNat < n → f_Model_next ml ma mv mw mt = f_Model_next_L0 ml ma mv mw mt n xa → ∀ (H : Heap) (locs : List Loc) (ls : Array Slot), va_P (dC, dI) vwCl [(oM, .inr (8, [.int th, .ref mT, .int ml, .int xa, .int mk, .int mp, .long mv, .int mw, .ref mN, .ref mD, .ref mF, .ref mS, .ref mL, .ref mR, .ref mE, .ref mK, .ref mV, .int dr, .int dc, .int ds, .int ru, .int cl, .ref mO, .int os, .int fc, .ref mA, .ref mB, .ref mU, .ref mW, .int pi, .int wh, .long ms, .int aq, .int da, .ref mX, .ref mY, .long lu, .long ld, .long qu, .long qd])), (mT, .inl (cI, 800, .inl mt))] H → va_D A [(oM, .inr (8, [.int th, .ref mT, .int ml, .int xa, .int mk, .int mp, .long mv, .int mw, .ref mN, .ref mD, .ref mF, .ref mS, .ref mL, .ref mR, .ref mE, .ref mK, .ref mV, .int dr, .int dc, .int ds, .int ru, .int cl, .ref mO, .int os, .int fc, .ref mA, .ref mB, .ref mU, .ref mW, .int pi, .int wh, .long ms, .int aq, .int da, .ref mX, .ref mY, .long lu, .long ld, .long qu, .long qd])), (mT, .inl (cI, 800, .inl mt))] → va_S A s.heap H locs → lv_has ls 3 [(0, .ref oM)] → W p l e (headSpec (cw_Model_next :: bgw) { frames := 2, cells := 0, slots := 0, locals := 46 }).room s m ([.ref oM] : List Value).toArray below meth c H locs 0 0 (MQ below (q_Model_next dC dI cB cI cJ oM mT mN mD mF mS mL mR mE mK mV mO mA mB mU mW mX mY th ml ma mk mp mv mw dr dc ds ru cl os fc pi wh ms aq da lu ld qu qd mt A) ([.ref oM] : List Value).toArray s 0 0 A) (F0 m 0 ls []) := by
    intro n
    induction n with
    | zero => intro xa i0 i1 hn; exact absurd hn (Nat.not_lt_zero _)
    | succ n ih =>
      intro xa i0 i1 hn hF H locs ls hP hD hS hl
      have hF := hF.trans (f_Model_next_L0_s ml ma mv mw mt n xa)
      refine lv_aload_n hx hb d_Model_next_0 rfl (lv_at hl 0 rfl) ?_
      refine lv_aload_n hx hb d_Model_next_1 rfl (lv_at hl 0 rfl) ?_
      refine va_get (D := (dC, dI)) (ci := 8) (v := .int xa) (C := "PermitRulesModel") (T := T_Model) (N := 40) hx hb htb in_Model hown hK hP 0 rfl rfl 3 (by decide) (htb _ mb_656) (fun _ h9 => h9) rfl d_Model_next_2 ?_
      have hPc := hP.sub (ws' := [(oM, .inr (8, [.int th, .ref mT, .int ml, .int xa, .int mk, .int mp, .long mv, .int mw, .ref mN, .ref mD, .ref mF, .ref mS, .ref mL, .ref mR, .ref mE, .ref mK, .ref mV, .int dr, .int dc, .int ds, .int ru, .int cl, .ref mO, .int os, .int fc, .ref mA, .ref mB, .ref mU, .ref mW, .int pi, .int wh, .long ms, .int aq, .int da, .ref mX, .ref mY, .long lu, .long ld, .long qu, .long qd])), (mT, .inl (cI, 800, .inl mt))]) [0, 1] rfl
      have hDc := hD.sub (ws' := [(oM, .inr (8, [.int th, .ref mT, .int ml, .int xa, .int mk, .int mp, .long mv, .int mw, .ref mN, .ref mD, .ref mF, .ref mS, .ref mL, .ref mR, .ref mE, .ref mK, .ref mV, .int dr, .int dc, .int ds, .int ru, .int cl, .ref mO, .int os, .int fc, .ref mA, .ref mB, .ref mU, .ref mW, .int pi, .int wh, .long ms, .int aq, .int da, .ref mX, .ref mY, .long lu, .long ld, .long qu, .long qd])), (mT, .inl (cI, 800, .inl mt))]) [0, 1] (by decide) rfl
      have hFc := va_free (wc := [(oM, .inr (8, [.int th, .ref mT, .int ml, .int xa, .int mk, .int mp, .long mv, .int mw, .ref mN, .ref mD, .ref mF, .ref mS, .ref mL, .ref mR, .ref mE, .ref mK, .ref mV, .int dr, .int dc, .int ds, .int ru, .int cl, .ref mO, .int os, .int fc, .ref mA, .ref mB, .ref mU, .ref mW, .int pi, .int wh, .long ms, .int aq, .int da, .ref mX, .ref mY, .long lu, .long ld, .long qu, .long qd])), (mT, .inl (cI, 800, .inl mt))]) hD hS hA [0, 1] rfl
      refine va_calli (va_runV (As := [.int xa]) (rest := []) ⟨hx, hb, hml, hown, htb⟩ (c_Model_character l dC dI cB cI cJ oM mT mN mD mF mS mL mR mE mK mV mO mA mB mU mW mX mY _ xa th ml xa mk mp mv mw dr dc ds ru cl os fc pi wh ms aq da lu ld qu qd mt (by omega) (by omega)) ⟨callB_of 1 htb (gb_all mb_803) rfl rfl rfl (htb _ mb_9) (htb _ mb_800) (by decide +kernel) ⟨Nat.le_of_ble_eq_true rfl, Nat.le_of_ble_eq_true rfl⟩, htb _ mb_802, htb _ mp_18⟩ ⟨kb_blind, va_recv hK hPc (ci := 8) (q0 := 0) rfl rfl, kb_at hPc hDc hKx⟩ rfl rfl hl.1 rfl (lv_room (Nat.le_of_ble_eq_true rfl)) d_Model_next_5 ⟨Nat.le_of_ble_eq_true rfl, Nat.le_of_ble_eq_true rfl⟩) hS (fun q _ h => hFc q h) hFc (fun z_1 u t H1 locs ht hvm hw hB hz1 hk1 hS => ?_)
      have hz_1 := hw
      have hF := hF.trans (lt_e hz_1)
      obtain ⟨hP1, hD1⟩ := hB
      rw [ht] at hP1
      obtain ⟨hP, hD⟩ := va_join (wr := []) (w1 := [(oM, .inr (8, [.int th, .ref mT, .int ml, .int xa, .int mk, .int mp, .long mv, .int mw, .ref mN, .ref mD, .ref mF, .ref mS, .ref mL, .ref mR, .ref mE, .ref mK, .ref mV, .int dr, .int dc, .int ds, .int ru, .int cl, .ref mO, .int os, .int fc, .ref mA, .ref mB, .ref mU, .ref mW, .int pi, .int wh, .long ms, .int aq, .int da, .ref mX, .ref mY, .long lu, .long ld, .long qu, .long qd])), (mT, .inl (cI, 800, .inl mt))]) hP hD [0, 1] [] rfl rfl (by decide) (by decide) hk1 hFc hP1 hD1
      generalize H1 = H at hP hS ⊢
      have hP : va_P (dC, dI) vwCl [(oM, .inr (8, [.int th, .ref mT, .int ml, .int xa, .int mk, .int mp, .long mv, .int mw, .ref mN, .ref mD, .ref mF, .ref mS, .ref mL, .ref mR, .ref mE, .ref mK, .ref mV, .int dr, .int dc, .int ds, .int ru, .int cl, .ref mO, .int os, .int fc, .ref mA, .ref mB, .ref mU, .ref mW, .int pi, .int wh, .long ms, .int aq, .int da, .ref mX, .ref mY, .long lu, .long ld, .long qu, .long qd])), (mT, .inl (cI, 800, .inl mt))] H := hP
      have hD : va_D A [(oM, .inr (8, [.int th, .ref mT, .int ml, .int xa, .int mk, .int mp, .long mv, .int mw, .ref mN, .ref mD, .ref mF, .ref mS, .ref mL, .ref mR, .ref mE, .ref mK, .ref mV, .int dr, .int dc, .int ds, .int ru, .int cl, .ref mO, .int os, .int fc, .ref mA, .ref mB, .ref mU, .ref mW, .int pi, .int wh, .long ms, .int aq, .int da, .ref mX, .ref mY, .long lu, .long ld, .long qu, .long qd])), (mT, .inl (cI, 800, .inl mt))] := hD
      refine lv_bipush (v := 32) hx hb d_Model_next_8 (by decide) ?_
      refine lv_icmp_ne (tgt := 26) hx hb d_Model_next_10 (by decide) (fun c_2 => ?_) (fun c_2 => ?_)
      · have hF := hF.trans (if_neg c_2)
        have tc_2 := ti_ne (Eq.refl z_1.toInt) (show (32 : Int32).toInt = 32 by decide) c_2
        refine lv_aload_n hx hb d_Model_next_26 rfl (lv_at hl 0 rfl) ?_
        refine lv_aload_n hx hb d_Model_next_27 rfl (lv_at hl 0 rfl) ?_
        refine va_get (D := (dC, dI)) (ci := 8) (v := .int xa) (C := "PermitRulesModel") (T := T_Model) (N := 40) hx hb htb in_Model hown hK hP 0 rfl rfl 3 (by decide) (htb _ mb_656) (fun _ h9 => h9) rfl d_Model_next_28 ?_
        refine va_put (D := (dC, dI)) (ci := 8) (v := .int xa) (ty := .int) (C := "PermitRulesModel") (T := T_Model) (N := 40) hx hb htb in_Model ty_Model to_Model nm_Model hown hK hP hD hS 0 rfl rfl 5 (by decide) (htb _ mb_658) (fun _ h9 => h9) rfl (by decide +kernel) rfl rfl (Nat.le_of_ble_eq_true rfl) d_Model_next_31 (fun H locs hP hD hS => ?_)
        have hP : va_P (dC, dI) vwCl [(oM, .inr (8, [.int th, .ref mT, .int ml, .int xa, .int mk, .int xa, .long mv, .int mw, .ref mN, .ref mD, .ref mF, .ref mS, .ref mL, .ref mR, .ref mE, .ref mK, .ref mV, .int dr, .int dc, .int ds, .int ru, .int cl, .ref mO, .int os, .int fc, .ref mA, .ref mB, .ref mU, .ref mW, .int pi, .int wh, .long ms, .int aq, .int da, .ref mX, .ref mY, .long lu, .long ld, .long qu, .long qd])), (mT, .inl (cI, 800, .inl mt))] H := hP
        have hD : va_D A [(oM, .inr (8, [.int th, .ref mT, .int ml, .int xa, .int mk, .int xa, .long mv, .int mw, .ref mN, .ref mD, .ref mF, .ref mS, .ref mL, .ref mR, .ref mE, .ref mK, .ref mV, .int dr, .int dc, .int ds, .int ru, .int cl, .ref mO, .int os, .int fc, .ref mA, .ref mB, .ref mU, .ref mW, .int pi, .int wh, .long ms, .int aq, .int da, .ref mX, .ref mY, .long lu, .long ld, .long qu, .long qd])), (mT, .inl (cI, 800, .inl mt))] := hD
        refine lv_aload_n hx hb d_Model_next_34 rfl (lv_at hl 0 rfl) ?_
        refine lv_aload_n hx hb d_Model_next_35 rfl (lv_at hl 0 rfl) ?_
        refine va_get (D := (dC, dI)) (ci := 8) (v := .int xa) (C := "PermitRulesModel") (T := T_Model) (N := 40) hx hb htb in_Model hown hK hP 0 rfl rfl 3 (by decide) (htb _ mb_656) (fun _ h9 => h9) rfl d_Model_next_36 ?_
        have hPc := hP.sub (ws' := [(oM, .inr (8, [.int th, .ref mT, .int ml, .int xa, .int mk, .int xa, .long mv, .int mw, .ref mN, .ref mD, .ref mF, .ref mS, .ref mL, .ref mR, .ref mE, .ref mK, .ref mV, .int dr, .int dc, .int ds, .int ru, .int cl, .ref mO, .int os, .int fc, .ref mA, .ref mB, .ref mU, .ref mW, .int pi, .int wh, .long ms, .int aq, .int da, .ref mX, .ref mY, .long lu, .long ld, .long qu, .long qd])), (mT, .inl (cI, 800, .inl mt))]) [0, 1] rfl
        have hDc := hD.sub (ws' := [(oM, .inr (8, [.int th, .ref mT, .int ml, .int xa, .int mk, .int xa, .long mv, .int mw, .ref mN, .ref mD, .ref mF, .ref mS, .ref mL, .ref mR, .ref mE, .ref mK, .ref mV, .int dr, .int dc, .int ds, .int ru, .int cl, .ref mO, .int os, .int fc, .ref mA, .ref mB, .ref mU, .ref mW, .int pi, .int wh, .long ms, .int aq, .int da, .ref mX, .ref mY, .long lu, .long ld, .long qu, .long qd])), (mT, .inl (cI, 800, .inl mt))]) [0, 1] (by decide) rfl
        have hFc := va_free (wc := [(oM, .inr (8, [.int th, .ref mT, .int ml, .int xa, .int mk, .int xa, .long mv, .int mw, .ref mN, .ref mD, .ref mF, .ref mS, .ref mL, .ref mR, .ref mE, .ref mK, .ref mV, .int dr, .int dc, .int ds, .int ru, .int cl, .ref mO, .int os, .int fc, .ref mA, .ref mB, .ref mU, .ref mW, .int pi, .int wh, .long ms, .int aq, .int da, .ref mX, .ref mY, .long lu, .long ld, .long qu, .long qd])), (mT, .inl (cI, 800, .inl mt))]) hD hS hA [0, 1] rfl
        refine va_calli (va_runV (As := [.int xa]) (rest := []) ⟨hx, hb, hml, hown, htb⟩ (c_Model_character l dC dI cB cI cJ oM mT mN mD mF mS mL mR mE mK mV mO mA mB mU mW mX mY _ xa th ml xa mk xa mv mw dr dc ds ru cl os fc pi wh ms aq da lu ld qu qd mt (by omega) (by omega)) ⟨callB_of 1 htb (gb_all mb_803) rfl rfl rfl (htb _ mb_9) (htb _ mb_800) (by decide +kernel) ⟨Nat.le_of_ble_eq_true rfl, Nat.le_of_ble_eq_true rfl⟩, htb _ mb_802, htb _ mp_18⟩ ⟨kb_blind, va_recv hK hPc (ci := 8) (q0 := 0) rfl rfl, kb_at hPc hDc hKx⟩ rfl rfl hl.1 rfl (lv_room (Nat.le_of_ble_eq_true rfl)) d_Model_next_39 ⟨Nat.le_of_ble_eq_true rfl, Nat.le_of_ble_eq_true rfl⟩) hS (fun q _ h => hFc q h) hFc (fun z_3 u t H1 locs ht hvm hw hB hz1 hk1 hS => ?_)
        have hz_3 := hw
        have hF := hF.trans (lt_e hz_3)
        obtain ⟨hP1, hD1⟩ := hB
        rw [ht] at hP1
        obtain ⟨hP, hD⟩ := va_join (wr := []) (w1 := [(oM, .inr (8, [.int th, .ref mT, .int ml, .int xa, .int mk, .int xa, .long mv, .int mw, .ref mN, .ref mD, .ref mF, .ref mS, .ref mL, .ref mR, .ref mE, .ref mK, .ref mV, .int dr, .int dc, .int ds, .int ru, .int cl, .ref mO, .int os, .int fc, .ref mA, .ref mB, .ref mU, .ref mW, .int pi, .int wh, .long ms, .int aq, .int da, .ref mX, .ref mY, .long lu, .long ld, .long qu, .long qd])), (mT, .inl (cI, 800, .inl mt))]) hP hD [0, 1] [] rfl rfl (by decide) (by decide) hk1 hFc hP1 hD1
        generalize H1 = H at hP hS ⊢
        have hP : va_P (dC, dI) vwCl [(oM, .inr (8, [.int th, .ref mT, .int ml, .int xa, .int mk, .int xa, .long mv, .int mw, .ref mN, .ref mD, .ref mF, .ref mS, .ref mL, .ref mR, .ref mE, .ref mK, .ref mV, .int dr, .int dc, .int ds, .int ru, .int cl, .ref mO, .int os, .int fc, .ref mA, .ref mB, .ref mU, .ref mW, .int pi, .int wh, .long ms, .int aq, .int da, .ref mX, .ref mY, .long lu, .long ld, .long qu, .long qd])), (mT, .inl (cI, 800, .inl mt))] H := hP
        have hD : va_D A [(oM, .inr (8, [.int th, .ref mT, .int ml, .int xa, .int mk, .int xa, .long mv, .int mw, .ref mN, .ref mD, .ref mF, .ref mS, .ref mL, .ref mR, .ref mE, .ref mK, .ref mV, .int dr, .int dc, .int ds, .int ru, .int cl, .ref mO, .int os, .int fc, .ref mA, .ref mB, .ref mU, .ref mW, .int pi, .int wh, .long ms, .int aq, .int da, .ref mX, .ref mY, .long lu, .long ld, .long qu, .long qd])), (mT, .inl (cI, 800, .inl mt))] := hD
        refine lv_istore_n (lv' := [(1, .int z_3), (0, .ref oM)]) hx hb d_Model_next_42 rfl hl (by decide) rfl (fun ls hl => ?_)
        refine lv_iload_n hx hb d_Model_next_43 rfl (lv_at hl 0 rfl) ?_
        refine lv_if_ge (tgt := 53) hx hb d_Model_next_44 (by decide) (fun c_4 => ?_) (fun c_4 => ?_)
        · have hF := hF.trans (if_pos c_4)
          have tc_4 := ti_le (show (0 : Int32).toInt = 0 by decide) (Eq.refl z_3.toInt) c_4
          refine lv_aload_n hx hb d_Model_next_53 rfl (lv_at hl 1 rfl) ?_
          refine lv_dup hx hb d_Model_next_54 rfl ?_
          refine va_get (D := (dC, dI)) (ci := 8) (v := .int mw) (C := "PermitRulesModel") (T := T_Model) (N := 40) hx hb htb in_Model hown hK hP 0 rfl rfl 7 (by decide) (htb _ mb_660) (fun _ h9 => h9) rfl d_Model_next_55 ?_
          refine lv_iconst (v := 1) hx hb d_Model_next_58 (by decide) ?_
          refine lv_iadd hx hb d_Model_next_59 ?_
          refine va_put (D := (dC, dI)) (ci := 8) (v := .int (mw + 1)) (ty := .int) (C := "PermitRulesModel") (T := T_Model) (N := 40) hx hb htb in_Model ty_Model to_Model nm_Model hown hK hP hD hS 0 rfl rfl 7 (by decide) (htb _ mb_660) (fun _ h9 => h9) rfl (by decide +kernel) rfl rfl (Nat.le_of_ble_eq_true rfl) d_Model_next_60 (fun H locs hP hD hS => ?_)
          have hP : va_P (dC, dI) vwCl [(oM, .inr (8, [.int th, .ref mT, .int ml, .int xa, .int mk, .int xa, .long mv, .int (mw + 1), .ref mN, .ref mD, .ref mF, .ref mS, .ref mL, .ref mR, .ref mE, .ref mK, .ref mV, .int dr, .int dc, .int ds, .int ru, .int cl, .ref mO, .int os, .int fc, .ref mA, .ref mB, .ref mU, .ref mW, .int pi, .int wh, .long ms, .int aq, .int da, .ref mX, .ref mY, .long lu, .long ld, .long qu, .long qd])), (mT, .inl (cI, 800, .inl mt))] H := hP
          have hD : va_D A [(oM, .inr (8, [.int th, .ref mT, .int ml, .int xa, .int mk, .int xa, .long mv, .int (mw + 1), .ref mN, .ref mD, .ref mF, .ref mS, .ref mL, .ref mR, .ref mE, .ref mK, .ref mV, .int dr, .int dc, .int ds, .int ru, .int cl, .ref mO, .int os, .int fc, .ref mA, .ref mB, .ref mU, .ref mW, .int pi, .int wh, .long ms, .int aq, .int da, .ref mX, .ref mY, .long lu, .long ld, .long qu, .long qd])), (mT, .inl (cI, 800, .inl mt))] := hD
          refine lv_aload_n hx hb d_Model_next_63 rfl (lv_at hl 1 rfl) ?_
          refine lv_lconst (v := 0) hx hb d_Model_next_64 (by decide) ?_
          refine va_put (D := (dC, dI)) (ci := 8) (v := .long 0) (ty := .long) (C := "PermitRulesModel") (T := T_Model) (N := 40) hx hb htb in_Model ty_Model to_Model nm_Model hown hK hP hD hS 0 rfl rfl 6 (by decide) (htb _ mb_659) (fun _ h9 => h9) rfl (by decide +kernel) rfl rfl (Nat.le_of_ble_eq_true rfl) d_Model_next_65 (fun H locs hP hD hS => ?_)
          have hP : va_P (dC, dI) vwCl [(oM, .inr (8, [.int th, .ref mT, .int ml, .int xa, .int mk, .int xa, .long 0, .int (mw + 1), .ref mN, .ref mD, .ref mF, .ref mS, .ref mL, .ref mR, .ref mE, .ref mK, .ref mV, .int dr, .int dc, .int ds, .int ru, .int cl, .ref mO, .int os, .int fc, .ref mA, .ref mB, .ref mU, .ref mW, .int pi, .int wh, .long ms, .int aq, .int da, .ref mX, .ref mY, .long lu, .long ld, .long qu, .long qd])), (mT, .inl (cI, 800, .inl mt))] H := hP
          have hD : va_D A [(oM, .inr (8, [.int th, .ref mT, .int ml, .int xa, .int mk, .int xa, .long 0, .int (mw + 1), .ref mN, .ref mD, .ref mF, .ref mS, .ref mL, .ref mR, .ref mE, .ref mK, .ref mV, .int dr, .int dc, .int ds, .int ru, .int cl, .ref mO, .int os, .int fc, .ref mA, .ref mB, .ref mU, .ref mW, .int pi, .int wh, .long ms, .int aq, .int da, .ref mX, .ref mY, .long lu, .long ld, .long qu, .long qd])), (mT, .inl (cI, 800, .inl mt))] := hD
          refine lv_iconst (v := 0) hx hb d_Model_next_68 (by decide) ?_
          refine lv_istore_n (lv' := [(2, .int 0), (1, .int z_3), (0, .ref oM)]) hx hb d_Model_next_69 rfl hl (by decide) rfl (fun ls hl => ?_)
          refine lv_aload_n hx hb d_Model_next_70 rfl (lv_at hl 2 rfl) ?_
          refine lv_aload_n hx hb d_Model_next_71 rfl (lv_at hl 2 rfl) ?_
          refine va_get (D := (dC, dI)) (ci := 8) (v := .int xa) (C := "PermitRulesModel") (T := T_Model) (N := 40) hx hb htb in_Model hown hK hP 0 rfl rfl 3 (by decide) (htb _ mb_656) (fun _ h9 => h9) rfl d_Model_next_72 ?_
          have hPc := hP.sub (ws' := [(oM, .inr (8, [.int th, .ref mT, .int ml, .int xa, .int mk, .int xa, .long 0, .int (mw + 1), .ref mN, .ref mD, .ref mF, .ref mS, .ref mL, .ref mR, .ref mE, .ref mK, .ref mV, .int dr, .int dc, .int ds, .int ru, .int cl, .ref mO, .int os, .int fc, .ref mA, .ref mB, .ref mU, .ref mW, .int pi, .int wh, .long ms, .int aq, .int da, .ref mX, .ref mY, .long lu, .long ld, .long qu, .long qd])), (mT, .inl (cI, 800, .inl mt))]) [0, 1] rfl
          have hDc := hD.sub (ws' := [(oM, .inr (8, [.int th, .ref mT, .int ml, .int xa, .int mk, .int xa, .long 0, .int (mw + 1), .ref mN, .ref mD, .ref mF, .ref mS, .ref mL, .ref mR, .ref mE, .ref mK, .ref mV, .int dr, .int dc, .int ds, .int ru, .int cl, .ref mO, .int os, .int fc, .ref mA, .ref mB, .ref mU, .ref mW, .int pi, .int wh, .long ms, .int aq, .int da, .ref mX, .ref mY, .long lu, .long ld, .long qu, .long qd])), (mT, .inl (cI, 800, .inl mt))]) [0, 1] (by decide) rfl
          have hFc := va_free (wc := [(oM, .inr (8, [.int th, .ref mT, .int ml, .int xa, .int mk, .int xa, .long 0, .int (mw + 1), .ref mN, .ref mD, .ref mF, .ref mS, .ref mL, .ref mR, .ref mE, .ref mK, .ref mV, .int dr, .int dc, .int ds, .int ru, .int cl, .ref mO, .int os, .int fc, .ref mA, .ref mB, .ref mU, .ref mW, .int pi, .int wh, .long ms, .int aq, .int da, .ref mX, .ref mY, .long lu, .long ld, .long qu, .long qd])), (mT, .inl (cI, 800, .inl mt))]) hD hS hA [0, 1] rfl
          refine va_calli (va_runV (As := [.int xa]) (rest := []) ⟨hx, hb, hml, hown, htb⟩ (c_Model_isDigit l dC dI cB cI cJ oM mT mN mD mF mS mL mR mE mK mV mO mA mB mU mW mX mY _ xa th ml xa mk xa 0 (mw + 1) dr dc ds ru cl os fc pi wh ms aq da lu ld qu qd mt (by omega) (by omega)) ⟨callB_of 1 htb (gb_all mb_807) rfl rfl rfl (htb _ mb_9) (htb _ mb_804) (by decide +kernel) ⟨Nat.le_of_ble_eq_true rfl, Nat.le_of_ble_eq_true rfl⟩, htb _ mb_806, htb _ mp_19⟩ ⟨kb_blind, va_recv hK hPc (ci := 8) (q0 := 0) rfl rfl, kb_at hPc hDc hKx⟩ rfl rfl hl.1 rfl (lv_room (Nat.le_of_ble_eq_true rfl)) d_Model_next_75 ⟨Nat.le_of_ble_eq_true rfl, Nat.le_of_ble_eq_true rfl⟩) hS (fun q _ h => hFc q h) hFc (fun z_5 u t H1 locs ht hvm hw hB hz1 hk1 hS => ?_)
          have hz_5 := hw
          have hF := hF.trans (lt_e hz_5)
          obtain ⟨hP1, hD1⟩ := hB
          rw [ht] at hP1
          obtain ⟨hP, hD⟩ := va_join (wr := []) (w1 := [(oM, .inr (8, [.int th, .ref mT, .int ml, .int xa, .int mk, .int xa, .long 0, .int (mw + 1), .ref mN, .ref mD, .ref mF, .ref mS, .ref mL, .ref mR, .ref mE, .ref mK, .ref mV, .int dr, .int dc, .int ds, .int ru, .int cl, .ref mO, .int os, .int fc, .ref mA, .ref mB, .ref mU, .ref mW, .int pi, .int wh, .long ms, .int aq, .int da, .ref mX, .ref mY, .long lu, .long ld, .long qu, .long qd])), (mT, .inl (cI, 800, .inl mt))]) hP hD [0, 1] [] rfl rfl (by decide) (by decide) hk1 hFc hP1 hD1
          generalize H1 = H at hP hS ⊢
          have hP : va_P (dC, dI) vwCl [(oM, .inr (8, [.int th, .ref mT, .int ml, .int xa, .int mk, .int xa, .long 0, .int (mw + 1), .ref mN, .ref mD, .ref mF, .ref mS, .ref mL, .ref mR, .ref mE, .ref mK, .ref mV, .int dr, .int dc, .int ds, .int ru, .int cl, .ref mO, .int os, .int fc, .ref mA, .ref mB, .ref mU, .ref mW, .int pi, .int wh, .long ms, .int aq, .int da, .ref mX, .ref mY, .long lu, .long ld, .long qu, .long qd])), (mT, .inl (cI, 800, .inl mt))] H := hP
          have hD : va_D A [(oM, .inr (8, [.int th, .ref mT, .int ml, .int xa, .int mk, .int xa, .long 0, .int (mw + 1), .ref mN, .ref mD, .ref mF, .ref mS, .ref mL, .ref mR, .ref mE, .ref mK, .ref mV, .int dr, .int dc, .int ds, .int ru, .int cl, .ref mO, .int os, .int fc, .ref mA, .ref mB, .ref mU, .ref mW, .int pi, .int wh, .long ms, .int aq, .int da, .ref mX, .ref mY, .long lu, .long ld, .long qu, .long qd])), (mT, .inl (cI, 800, .inl mt))] := hD
          refine lv_if_eq (tgt := 165) hx hb d_Model_next_78 (by decide) (fun c_6 => ?_) (fun c_6 => ?_)
          · have hF := hF.trans (if_pos c_6)
            have tc_6 := ti_eq (Eq.refl z_5.toInt) (show (0 : Int32).toInt = 0 by decide) c_6
            refine lv_aload_n hx hb d_Model_next_165 rfl (lv_at hl 2 rfl) ?_
            refine lv_aload_n hx hb d_Model_next_166 rfl (lv_at hl 2 rfl) ?_
            refine va_get (D := (dC, dI)) (ci := 8) (v := .int xa) (C := "PermitRulesModel") (T := T_Model) (N := 40) hx hb htb in_Model hown hK hP 0 rfl rfl 3 (by decide) (htb _ mb_656) (fun _ h9 => h9) rfl d_Model_next_167 ?_
            have hPc := hP.sub (ws' := [(oM, .inr (8, [.int th, .ref mT, .int ml, .int xa, .int mk, .int xa, .long 0, .int (mw + 1), .ref mN, .ref mD, .ref mF, .ref mS, .ref mL, .ref mR, .ref mE, .ref mK, .ref mV, .int dr, .int dc, .int ds, .int ru, .int cl, .ref mO, .int os, .int fc, .ref mA, .ref mB, .ref mU, .ref mW, .int pi, .int wh, .long ms, .int aq, .int da, .ref mX, .ref mY, .long lu, .long ld, .long qu, .long qd])), (mT, .inl (cI, 800, .inl mt))]) [0, 1] rfl
            have hDc := hD.sub (ws' := [(oM, .inr (8, [.int th, .ref mT, .int ml, .int xa, .int mk, .int xa, .long 0, .int (mw + 1), .ref mN, .ref mD, .ref mF, .ref mS, .ref mL, .ref mR, .ref mE, .ref mK, .ref mV, .int dr, .int dc, .int ds, .int ru, .int cl, .ref mO, .int os, .int fc, .ref mA, .ref mB, .ref mU, .ref mW, .int pi, .int wh, .long ms, .int aq, .int da, .ref mX, .ref mY, .long lu, .long ld, .long qu, .long qd])), (mT, .inl (cI, 800, .inl mt))]) [0, 1] (by decide) rfl
            have hFc := va_free (wc := [(oM, .inr (8, [.int th, .ref mT, .int ml, .int xa, .int mk, .int xa, .long 0, .int (mw + 1), .ref mN, .ref mD, .ref mF, .ref mS, .ref mL, .ref mR, .ref mE, .ref mK, .ref mV, .int dr, .int dc, .int ds, .int ru, .int cl, .ref mO, .int os, .int fc, .ref mA, .ref mB, .ref mU, .ref mW, .int pi, .int wh, .long ms, .int aq, .int da, .ref mX, .ref mY, .long lu, .long ld, .long qu, .long qd])), (mT, .inl (cI, 800, .inl mt))]) hD hS hA [0, 1] rfl
            refine va_calli (va_runV (As := [.int xa]) (rest := []) ⟨hx, hb, hml, hown, htb⟩ (c_Model_isLetter l dC dI cB cI cJ oM mT mN mD mF mS mL mR mE mK mV mO mA mB mU mW mX mY _ xa th ml xa mk xa 0 (mw + 1) dr dc ds ru cl os fc pi wh ms aq da lu ld qu qd mt (by omega) (by omega)) ⟨callB_of 1 htb (gb_all mb_814) rfl rfl rfl (htb _ mb_9) (htb _ mb_811) (by decide +kernel) ⟨Nat.le_of_ble_eq_true rfl, Nat.le_of_ble_eq_true rfl⟩, htb _ mb_813, htb _ mp_20⟩ ⟨kb_blind, va_recv hK hPc (ci := 8) (q0 := 0) rfl rfl, kb_at hPc hDc hKx⟩ rfl rfl hl.1 rfl (lv_room (Nat.le_of_ble_eq_true rfl)) d_Model_next_170 ⟨Nat.le_of_ble_eq_true rfl, Nat.le_of_ble_eq_true rfl⟩) hS (fun q _ h => hFc q h) hFc (fun z_7 u t H1 locs ht hvm hw hB hz1 hk1 hS => ?_)
            have hz_7 := hw
            have hF := hF.trans (lt_e hz_7)
            obtain ⟨hP1, hD1⟩ := hB
            rw [ht] at hP1
            obtain ⟨hP, hD⟩ := va_join (wr := []) (w1 := [(oM, .inr (8, [.int th, .ref mT, .int ml, .int xa, .int mk, .int xa, .long 0, .int (mw + 1), .ref mN, .ref mD, .ref mF, .ref mS, .ref mL, .ref mR, .ref mE, .ref mK, .ref mV, .int dr, .int dc, .int ds, .int ru, .int cl, .ref mO, .int os, .int fc, .ref mA, .ref mB, .ref mU, .ref mW, .int pi, .int wh, .long ms, .int aq, .int da, .ref mX, .ref mY, .long lu, .long ld, .long qu, .long qd])), (mT, .inl (cI, 800, .inl mt))]) hP hD [0, 1] [] rfl rfl (by decide) (by decide) hk1 hFc hP1 hD1
            generalize H1 = H at hP hS ⊢
            have hP : va_P (dC, dI) vwCl [(oM, .inr (8, [.int th, .ref mT, .int ml, .int xa, .int mk, .int xa, .long 0, .int (mw + 1), .ref mN, .ref mD, .ref mF, .ref mS, .ref mL, .ref mR, .ref mE, .ref mK, .ref mV, .int dr, .int dc, .int ds, .int ru, .int cl, .ref mO, .int os, .int fc, .ref mA, .ref mB, .ref mU, .ref mW, .int pi, .int wh, .long ms, .int aq, .int da, .ref mX, .ref mY, .long lu, .long ld, .long qu, .long qd])), (mT, .inl (cI, 800, .inl mt))] H := hP
            have hD : va_D A [(oM, .inr (8, [.int th, .ref mT, .int ml, .int xa, .int mk, .int xa, .long 0, .int (mw + 1), .ref mN, .ref mD, .ref mF, .ref mS, .ref mL, .ref mR, .ref mE, .ref mK, .ref mV, .int dr, .int dc, .int ds, .int ru, .int cl, .ref mO, .int os, .int fc, .ref mA, .ref mB, .ref mU, .ref mW, .int pi, .int wh, .long ms, .int aq, .int da, .ref mX, .ref mY, .long lu, .long ld, .long qu, .long qd])), (mT, .inl (cI, 800, .inl mt))] := hD
            refine lv_if_eq (tgt := 256) hx hb d_Model_next_173 (by decide) (fun c_8 => ?_) (fun c_8 => ?_)
            · have hF := hF.trans (if_pos c_8)
              have tc_8 := ti_eq (Eq.refl z_7.toInt) (show (0 : Int32).toInt = 0 by decide) c_8
              refine lv_aload_n hx hb d_Model_next_256 rfl (lv_at hl 2 rfl) ?_
              refine lv_dup hx hb d_Model_next_257 rfl ?_
              refine va_get (D := (dC, dI)) (ci := 8) (v := .int xa) (C := "PermitRulesModel") (T := T_Model) (N := 40) hx hb htb in_Model hown hK hP 0 rfl rfl 3 (by decide) (htb _ mb_656) (fun _ h9 => h9) rfl d_Model_next_258 ?_
              refine lv_iconst (v := 1) hx hb d_Model_next_261 (by decide) ?_
              refine lv_iadd hx hb d_Model_next_262 ?_
              refine va_put (D := (dC, dI)) (ci := 8) (v := .int (xa + 1)) (ty := .int) (C := "PermitRulesModel") (T := T_Model) (N := 40) hx hb htb in_Model ty_Model to_Model nm_Model hown hK hP hD hS 0 rfl rfl 3 (by decide) (htb _ mb_656) (fun _ h9 => h9) rfl (by decide +kernel) rfl rfl (Nat.le_of_ble_eq_true rfl) d_Model_next_263 (fun H locs hP hD hS => ?_)
              have hP : va_P (dC, dI) vwCl [(oM, .inr (8, [.int th, .ref mT, .int ml, .int (xa + 1), .int mk, .int xa, .long 0, .int (mw + 1), .ref mN, .ref mD, .ref mF, .ref mS, .ref mL, .ref mR, .ref mE, .ref mK, .ref mV, .int dr, .int dc, .int ds, .int ru, .int cl, .ref mO, .int os, .int fc, .ref mA, .ref mB, .ref mU, .ref mW, .int pi, .int wh, .long ms, .int aq, .int da, .ref mX, .ref mY, .long lu, .long ld, .long qu, .long qd])), (mT, .inl (cI, 800, .inl mt))] H := hP
              have hD : va_D A [(oM, .inr (8, [.int th, .ref mT, .int ml, .int (xa + 1), .int mk, .int xa, .long 0, .int (mw + 1), .ref mN, .ref mD, .ref mF, .ref mS, .ref mL, .ref mR, .ref mE, .ref mK, .ref mV, .int dr, .int dc, .int ds, .int ru, .int cl, .ref mO, .int os, .int fc, .ref mA, .ref mB, .ref mU, .ref mW, .int pi, .int wh, .long ms, .int aq, .int da, .ref mX, .ref mY, .long lu, .long ld, .long qu, .long qd])), (mT, .inl (cI, 800, .inl mt))] := hD
              refine lv_aload_n hx hb d_Model_next_266 rfl (lv_at hl 2 rfl) ?_
              refine lv_iload_n hx hb d_Model_next_267 rfl (lv_at hl 1 rfl) ?_
              have hPc := hP.sub (ws' := []) [] rfl
              have hDc := hD.sub (ws' := []) [] (by decide) rfl
              have hFc := va_free (wc := []) hD hS hA [] rfl
              refine va_calli (va_runS (As := [.int z_3]) (rest := [.ref oM]) ⟨hx, hb, hml, hown, htb⟩ (c_Model_isSign l dC dI cB cI cJ  _ z_3 ) ⟨callB_of 1 htb (gb_all mb_820) rfl rfl rfl (htb _ mb_9) (htb _ mb_818) (by decide +kernel) ⟨Nat.le_of_ble_eq_true rfl, Nat.le_of_ble_eq_true rfl⟩, htb _ mb_819⟩ ⟨kb_blind, kb_at hPc hDc hKx⟩ rfl rfl hl.1 rfl (lv_room (Nat.le_of_ble_eq_true rfl)) d_Model_next_268 ⟨Nat.le_of_ble_eq_true rfl, Nat.le_of_ble_eq_true rfl⟩) hS (fun q _ h => hFc q h) hFc (fun z_9 u t H1 locs ht hvm hw hB hz1 hk1 hS => ?_)
              have hz_9 := hw
              have hF := hF.trans (lt_e hz_9)
              obtain ⟨hP1, hD1⟩ := hB
              rw [ht] at hP1
              obtain ⟨hP, hD⟩ := va_join (wr := [(oM, .inr (8, [.int th, .ref mT, .int ml, .int (xa + 1), .int mk, .int xa, .long 0, .int (mw + 1), .ref mN, .ref mD, .ref mF, .ref mS, .ref mL, .ref mR, .ref mE, .ref mK, .ref mV, .int dr, .int dc, .int ds, .int ru, .int cl, .ref mO, .int os, .int fc, .ref mA, .ref mB, .ref mU, .ref mW, .int pi, .int wh, .long ms, .int aq, .int da, .ref mX, .ref mY, .long lu, .long ld, .long qu, .long qd])), (mT, .inl (cI, 800, .inl mt))]) (w1 := []) hP hD [] [0, 1] rfl rfl (by decide) (by decide) hk1 hFc hP1 hD1
              generalize H1 = H at hP hS ⊢
              have hP : va_P (dC, dI) vwCl [(oM, .inr (8, [.int th, .ref mT, .int ml, .int (xa + 1), .int mk, .int xa, .long 0, .int (mw + 1), .ref mN, .ref mD, .ref mF, .ref mS, .ref mL, .ref mR, .ref mE, .ref mK, .ref mV, .int dr, .int dc, .int ds, .int ru, .int cl, .ref mO, .int os, .int fc, .ref mA, .ref mB, .ref mU, .ref mW, .int pi, .int wh, .long ms, .int aq, .int da, .ref mX, .ref mY, .long lu, .long ld, .long qu, .long qd])), (mT, .inl (cI, 800, .inl mt))] H := hP
              have hD : va_D A [(oM, .inr (8, [.int th, .ref mT, .int ml, .int (xa + 1), .int mk, .int xa, .long 0, .int (mw + 1), .ref mN, .ref mD, .ref mF, .ref mS, .ref mL, .ref mR, .ref mE, .ref mK, .ref mV, .int dr, .int dc, .int ds, .int ru, .int cl, .ref mO, .int os, .int fc, .ref mA, .ref mB, .ref mU, .ref mW, .int pi, .int wh, .long ms, .int aq, .int da, .ref mX, .ref mY, .long lu, .long ld, .long qu, .long qd])), (mT, .inl (cI, 800, .inl mt))] := hD
              refine lv_if_eq (tgt := 278) hx hb d_Model_next_271 (by decide) (fun c_10 => ?_) (fun c_10 => ?_)
              · have hF := hF.trans (if_pos c_10)
                have tc_10 := ti_eq (Eq.refl z_9.toInt) (show (0 : Int32).toInt = 0 by decide) c_10
                refine lv_iconst (v := 3) hx hb d_Model_next_278 (by decide) ?_
                refine va_put (D := (dC, dI)) (ci := 8) (v := .int 3) (ty := .int) (C := "PermitRulesModel") (T := T_Model) (N := 40) hx hb htb in_Model ty_Model to_Model nm_Model hown hK hP hD hS 0 rfl rfl 4 (by decide) (htb _ mb_657) (fun _ h9 => h9) rfl (by decide +kernel) rfl rfl (Nat.le_of_ble_eq_true rfl) d_Model_next_279 (fun H locs hP hD hS => ?_)
                have hP : va_P (dC, dI) vwCl [(oM, .inr (8, [.int th, .ref mT, .int ml, .int (xa + 1), .int 3, .int xa, .long 0, .int (mw + 1), .ref mN, .ref mD, .ref mF, .ref mS, .ref mL, .ref mR, .ref mE, .ref mK, .ref mV, .int dr, .int dc, .int ds, .int ru, .int cl, .ref mO, .int os, .int fc, .ref mA, .ref mB, .ref mU, .ref mW, .int pi, .int wh, .long ms, .int aq, .int da, .ref mX, .ref mY, .long lu, .long ld, .long qu, .long qd])), (mT, .inl (cI, 800, .inl mt))] H := hP
                have hD : va_D A [(oM, .inr (8, [.int th, .ref mT, .int ml, .int (xa + 1), .int 3, .int xa, .long 0, .int (mw + 1), .ref mN, .ref mD, .ref mF, .ref mS, .ref mL, .ref mR, .ref mE, .ref mK, .ref mV, .int dr, .int dc, .int ds, .int ru, .int cl, .ref mO, .int os, .int fc, .ref mA, .ref mB, .ref mU, .ref mW, .int pi, .int wh, .long ms, .int aq, .int da, .ref mX, .ref mY, .long lu, .long ld, .long qu, .long qd])), (mT, .inl (cI, 800, .inl mt))] := hD
                refine lv_iload_n hx hb d_Model_next_282 rfl (lv_at hl 1 rfl) ?_
                refine lv_bipush (v := 60) hx hb d_Model_next_283 (by decide) ?_
                refine lv_icmp_eq (tgt := 294) hx hb d_Model_next_285 (by decide) (fun c_11 => ?_) (fun c_11 => ?_)
                · have hF := hF.trans (if_pos c_11)
                  have tc_11 := ti_eq (Eq.refl z_3.toInt) (show (60 : Int32).toInt = 60 by decide) c_11
                  refine lv_aload_n hx hb d_Model_next_294 rfl (lv_at hl 2 rfl) ?_
                  refine lv_aload_n hx hb d_Model_next_295 rfl (lv_at hl 2 rfl) ?_
                  refine va_get (D := (dC, dI)) (ci := 8) (v := .int (xa + 1)) (C := "PermitRulesModel") (T := T_Model) (N := 40) hx hb htb in_Model hown hK hP 0 rfl rfl 3 (by decide) (htb _ mb_656) (fun _ h9 => h9) rfl d_Model_next_296 ?_
                  have hPc := hP.sub (ws' := [(oM, .inr (8, [.int th, .ref mT, .int ml, .int (xa + 1), .int 3, .int xa, .long 0, .int (mw + 1), .ref mN, .ref mD, .ref mF, .ref mS, .ref mL, .ref mR, .ref mE, .ref mK, .ref mV, .int dr, .int dc, .int ds, .int ru, .int cl, .ref mO, .int os, .int fc, .ref mA, .ref mB, .ref mU, .ref mW, .int pi, .int wh, .long ms, .int aq, .int da, .ref mX, .ref mY, .long lu, .long ld, .long qu, .long qd])), (mT, .inl (cI, 800, .inl mt))]) [0, 1] rfl
                  have hDc := hD.sub (ws' := [(oM, .inr (8, [.int th, .ref mT, .int ml, .int (xa + 1), .int 3, .int xa, .long 0, .int (mw + 1), .ref mN, .ref mD, .ref mF, .ref mS, .ref mL, .ref mR, .ref mE, .ref mK, .ref mV, .int dr, .int dc, .int ds, .int ru, .int cl, .ref mO, .int os, .int fc, .ref mA, .ref mB, .ref mU, .ref mW, .int pi, .int wh, .long ms, .int aq, .int da, .ref mX, .ref mY, .long lu, .long ld, .long qu, .long qd])), (mT, .inl (cI, 800, .inl mt))]) [0, 1] (by decide) rfl
                  have hFc := va_free (wc := [(oM, .inr (8, [.int th, .ref mT, .int ml, .int (xa + 1), .int 3, .int xa, .long 0, .int (mw + 1), .ref mN, .ref mD, .ref mF, .ref mS, .ref mL, .ref mR, .ref mE, .ref mK, .ref mV, .int dr, .int dc, .int ds, .int ru, .int cl, .ref mO, .int os, .int fc, .ref mA, .ref mB, .ref mU, .ref mW, .int pi, .int wh, .long ms, .int aq, .int da, .ref mX, .ref mY, .long lu, .long ld, .long qu, .long qd])), (mT, .inl (cI, 800, .inl mt))]) hD hS hA [0, 1] rfl
                  refine va_calli (va_runV (As := [.int (xa + 1)]) (rest := []) ⟨hx, hb, hml, hown, htb⟩ (c_Model_character l dC dI cB cI cJ oM mT mN mD mF mS mL mR mE mK mV mO mA mB mU mW mX mY _ (xa + 1) th ml (xa + 1) 3 xa 0 (mw + 1) dr dc ds ru cl os fc pi wh ms aq da lu ld qu qd mt (by have q0 := (oi_addE (Eq.refl xa.toInt) (show (1 : Int32).toInt = 1 by decide) (by omega) (by omega)); omega) (by omega)) ⟨callB_of 1 htb (gb_all mb_803) rfl rfl rfl (htb _ mb_9) (htb _ mb_800) (by decide +kernel) ⟨Nat.le_of_ble_eq_true rfl, Nat.le_of_ble_eq_true rfl⟩, htb _ mb_802, htb _ mp_18⟩ ⟨kb_blind, va_recv hK hPc (ci := 8) (q0 := 0) rfl rfl, kb_at hPc hDc hKx⟩ rfl rfl hl.1 rfl (lv_room (Nat.le_of_ble_eq_true rfl)) d_Model_next_299 ⟨Nat.le_of_ble_eq_true rfl, Nat.le_of_ble_eq_true rfl⟩) hS (fun q _ h => hFc q h) hFc (fun z_12 u t H1 locs ht hvm hw hB hz1 hk1 hS => ?_)
                  have hz_12 := hw
                  have hF := hF.trans (lt_e hz_12)
                  obtain ⟨hP1, hD1⟩ := hB
                  rw [ht] at hP1
                  obtain ⟨hP, hD⟩ := va_join (wr := []) (w1 := [(oM, .inr (8, [.int th, .ref mT, .int ml, .int (xa + 1), .int 3, .int xa, .long 0, .int (mw + 1), .ref mN, .ref mD, .ref mF, .ref mS, .ref mL, .ref mR, .ref mE, .ref mK, .ref mV, .int dr, .int dc, .int ds, .int ru, .int cl, .ref mO, .int os, .int fc, .ref mA, .ref mB, .ref mU, .ref mW, .int pi, .int wh, .long ms, .int aq, .int da, .ref mX, .ref mY, .long lu, .long ld, .long qu, .long qd])), (mT, .inl (cI, 800, .inl mt))]) hP hD [0, 1] [] rfl rfl (by decide) (by decide) hk1 hFc hP1 hD1
                  generalize H1 = H at hP hS ⊢
                  have hP : va_P (dC, dI) vwCl [(oM, .inr (8, [.int th, .ref mT, .int ml, .int (xa + 1), .int 3, .int xa, .long 0, .int (mw + 1), .ref mN, .ref mD, .ref mF, .ref mS, .ref mL, .ref mR, .ref mE, .ref mK, .ref mV, .int dr, .int dc, .int ds, .int ru, .int cl, .ref mO, .int os, .int fc, .ref mA, .ref mB, .ref mU, .ref mW, .int pi, .int wh, .long ms, .int aq, .int da, .ref mX, .ref mY, .long lu, .long ld, .long qu, .long qd])), (mT, .inl (cI, 800, .inl mt))] H := hP
                  have hD : va_D A [(oM, .inr (8, [.int th, .ref mT, .int ml, .int (xa + 1), .int 3, .int xa, .long 0, .int (mw + 1), .ref mN, .ref mD, .ref mF, .ref mS, .ref mL, .ref mR, .ref mE, .ref mK, .ref mV, .int dr, .int dc, .int ds, .int ru, .int cl, .ref mO, .int os, .int fc, .ref mA, .ref mB, .ref mU, .ref mW, .int pi, .int wh, .long ms, .int aq, .int da, .ref mX, .ref mY, .long lu, .long ld, .long qu, .long qd])), (mT, .inl (cI, 800, .inl mt))] := hD
                  refine lv_bipush (v := 61) hx hb d_Model_next_302 (by decide) ?_
                  refine lv_icmp_ne (tgt := 326) hx hb d_Model_next_304 (by decide) (fun c_13 => ?_) (fun c_13 => ?_)
                  · have hF := hF.trans (if_neg c_13)
                    have tc_13 := ti_ne (Eq.refl z_12.toInt) (show (61 : Int32).toInt = 61 by decide) c_13
                    refine lv_aload_n hx hb d_Model_next_326 rfl (lv_at hl 2 rfl) ?_
                    refine lv_aload_n hx hb d_Model_next_327 rfl (lv_at hl 2 rfl) ?_
                    refine va_get (D := (dC, dI)) (ci := 8) (v := .int (mw + 1)) (C := "PermitRulesModel") (T := T_Model) (N := 40) hx hb htb in_Model hown hK hP 0 rfl rfl 7 (by decide) (htb _ mb_660) (fun _ h9 => h9) rfl d_Model_next_328 ?_
                    refine lv_bipush (v := 120) hx hb d_Model_next_331 (by decide) ?_
                    refine lv_icmp_le (tgt := 340) hx hb d_Model_next_333 (by decide) (fun c_14 => ?_) (fun c_14 => ?_)
                    · have hF := hF.trans (if_pos c_14)
                      refine lv_aload_n hx hb d_Model_next_340 rfl (lv_at hl 2 rfl) ?_
                      refine va_get (D := (dC, dI)) (ci := 8) (v := .int 3) (C := "PermitRulesModel") (T := T_Model) (N := 40) hx hb htb in_Model hown hK hP 0 rfl rfl 4 (by decide) (htb _ mb_657) (fun _ h9 => h9) rfl d_Model_next_341 ?_
                      refine va_put (D := (dC, dI)) (ci := 8) (v := .int 3) (ty := .int) (C := "PermitRulesModel") (T := T_Model) (N := 40) hx hb htb in_Model ty_Model to_Model nm_Model hown hK hP hD hS 0 rfl rfl 4 (by decide) (htb _ mb_657) (fun _ h9 => h9) rfl (by decide +kernel) rfl rfl (Nat.le_of_ble_eq_true rfl) d_Model_next_344 (fun H locs hP hD hS => ?_)
                      have hP : va_P (dC, dI) vwCl [(oM, .inr (8, [.int th, .ref mT, .int ml, .int (xa + 1), .int 3, .int xa, .long 0, .int (mw + 1), .ref mN, .ref mD, .ref mF, .ref mS, .ref mL, .ref mR, .ref mE, .ref mK, .ref mV, .int dr, .int dc, .int ds, .int ru, .int cl, .ref mO, .int os, .int fc, .ref mA, .ref mB, .ref mU, .ref mW, .int pi, .int wh, .long ms, .int aq, .int da, .ref mX, .ref mY, .long lu, .long ld, .long qu, .long qd])), (mT, .inl (cI, 800, .inl mt))] H := hP
                      have hD : va_D A [(oM, .inr (8, [.int th, .ref mT, .int ml, .int (xa + 1), .int 3, .int xa, .long 0, .int (mw + 1), .ref mN, .ref mD, .ref mF, .ref mS, .ref mL, .ref mR, .ref mE, .ref mK, .ref mV, .int dr, .int dc, .int ds, .int ru, .int cl, .ref mO, .int os, .int fc, .ref mA, .ref mB, .ref mU, .ref mW, .int pi, .int wh, .long ms, .int aq, .int da, .ref mX, .ref mY, .long lu, .long ld, .long qu, .long qd])), (mT, .inl (cI, 800, .inl mt))] := hD
                      have hP9 := hP.sub (ws' := [(oM, .inr (8, [.int th, .ref mT, .int ml, .int (xa + 1), .int 3, .int xa, .long 0, .int (mw + 1), .ref mN, .ref mD, .ref mF, .ref mS, .ref mL, .ref mR, .ref mE, .ref mK, .ref mV, .int dr, .int dc, .int ds, .int ru, .int cl, .ref mO, .int os, .int fc, .ref mA, .ref mB, .ref mU, .ref mW, .int pi, .int wh, .long ms, .int aq, .int da, .ref mX, .ref mY, .long lu, .long ld, .long qu, .long qd])), (mT, .inl (cI, 800, .inl mt))]) [0, 1] rfl
                      have hD9 := hD.sub (ws' := [(oM, .inr (8, [.int th, .ref mT, .int ml, .int (xa + 1), .int 3, .int xa, .long 0, .int (mw + 1), .ref mN, .ref mD, .ref mF, .ref mS, .ref mL, .ref mR, .ref mE, .ref mK, .ref mV, .int dr, .int dc, .int ds, .int ru, .int cl, .ref mO, .int os, .int fc, .ref mA, .ref mB, .ref mU, .ref mW, .int pi, .int wh, .long ms, .int aq, .int da, .ref mX, .ref mY, .long lu, .long ld, .long qu, .long qd])), (mT, .inl (cI, 800, .inl mt))]) [0, 1] (by decide) rfl
                      exact W.vret hx hb hr (fun t ht hW => ⟨⟨(xa + 1, 3, xa, 0, mw + 1), rfl, by rw [hF], by rw [ht]; exact hP9, hD9⟩, hS.F ht⟩) hS.2.2 d_Model_next_347
                    · have hF := hF.trans (if_neg c_14)
                      refine lv_iconst (v := 3) hx hb d_Model_next_336 (by decide) ?_
                      refine lv_goto (tgt := 344) hx hb d_Model_next_337 (by decide) ?_
                      refine va_put (D := (dC, dI)) (ci := 8) (v := .int 3) (ty := .int) (C := "PermitRulesModel") (T := T_Model) (N := 40) hx hb htb in_Model ty_Model to_Model nm_Model hown hK hP hD hS 0 rfl rfl 4 (by decide) (htb _ mb_657) (fun _ h9 => h9) rfl (by decide +kernel) rfl rfl (Nat.le_of_ble_eq_true rfl) d_Model_next_344 (fun H locs hP hD hS => ?_)
                      have hP : va_P (dC, dI) vwCl [(oM, .inr (8, [.int th, .ref mT, .int ml, .int (xa + 1), .int 3, .int xa, .long 0, .int (mw + 1), .ref mN, .ref mD, .ref mF, .ref mS, .ref mL, .ref mR, .ref mE, .ref mK, .ref mV, .int dr, .int dc, .int ds, .int ru, .int cl, .ref mO, .int os, .int fc, .ref mA, .ref mB, .ref mU, .ref mW, .int pi, .int wh, .long ms, .int aq, .int da, .ref mX, .ref mY, .long lu, .long ld, .long qu, .long qd])), (mT, .inl (cI, 800, .inl mt))] H := hP
                      have hD : va_D A [(oM, .inr (8, [.int th, .ref mT, .int ml, .int (xa + 1), .int 3, .int xa, .long 0, .int (mw + 1), .ref mN, .ref mD, .ref mF, .ref mS, .ref mL, .ref mR, .ref mE, .ref mK, .ref mV, .int dr, .int dc, .int ds, .int ru, .int cl, .ref mO, .int os, .int fc, .ref mA, .ref mB, .ref mU, .ref mW, .int pi, .int wh, .long ms, .int aq, .int da, .ref mX, .ref mY, .long lu, .long ld, .long qu, .long qd])), (mT, .inl (cI, 800, .inl mt))] := hD
                      have hP9 := hP.sub (ws' := [(oM, .inr (8, [.int th, .ref mT, .int ml, .int (xa + 1), .int 3, .int xa, .long 0, .int (mw + 1), .ref mN, .ref mD, .ref mF, .ref mS, .ref mL, .ref mR, .ref mE, .ref mK, .ref mV, .int dr, .int dc, .int ds, .int ru, .int cl, .ref mO, .int os, .int fc, .ref mA, .ref mB, .ref mU, .ref mW, .int pi, .int wh, .long ms, .int aq, .int da, .ref mX, .ref mY, .long lu, .long ld, .long qu, .long qd])), (mT, .inl (cI, 800, .inl mt))]) [0, 1] rfl
                      have hD9 := hD.sub (ws' := [(oM, .inr (8, [.int th, .ref mT, .int ml, .int (xa + 1), .int 3, .int xa, .long 0, .int (mw + 1), .ref mN, .ref mD, .ref mF, .ref mS, .ref mL, .ref mR, .ref mE, .ref mK, .ref mV, .int dr, .int dc, .int ds, .int ru, .int cl, .ref mO, .int os, .int fc, .ref mA, .ref mB, .ref mU, .ref mW, .int pi, .int wh, .long ms, .int aq, .int da, .ref mX, .ref mY, .long lu, .long ld, .long qu, .long qd])), (mT, .inl (cI, 800, .inl mt))]) [0, 1] (by decide) rfl
                      exact W.vret hx hb hr (fun t ht hW => ⟨⟨(xa + 1, 3, xa, 0, mw + 1), rfl, by rw [hF], by rw [ht]; exact hP9, hD9⟩, hS.F ht⟩) hS.2.2 d_Model_next_347
                  · have hF := hF.trans (if_pos c_13)
                    have tc_13 := ti_eq (Eq.refl z_12.toInt) (show (61 : Int32).toInt = 61 by decide) c_13
                    refine lv_aload_n hx hb d_Model_next_307 rfl (lv_at hl 2 rfl) ?_
                    refine lv_iload_n hx hb d_Model_next_308 rfl (lv_at hl 1 rfl) ?_
                    refine lv_sipush (v := 256) hx hb d_Model_next_309 (by decide) ?_
                    refine lv_iadd hx hb d_Model_next_312 ?_
                    refine va_put (D := (dC, dI)) (ci := 8) (v := .int (z_3 + 256)) (ty := .int) (C := "PermitRulesModel") (T := T_Model) (N := 40) hx hb htb in_Model ty_Model to_Model nm_Model hown hK hP hD hS 0 rfl rfl 4 (by decide) (htb _ mb_657) (fun _ h9 => h9) rfl (by decide +kernel) rfl rfl (Nat.le_of_ble_eq_true rfl) d_Model_next_313 (fun H locs hP hD hS => ?_)
                    have hP : va_P (dC, dI) vwCl [(oM, .inr (8, [.int th, .ref mT, .int ml, .int (xa + 1), .int (z_3 + 256), .int xa, .long 0, .int (mw + 1), .ref mN, .ref mD, .ref mF, .ref mS, .ref mL, .ref mR, .ref mE, .ref mK, .ref mV, .int dr, .int dc, .int ds, .int ru, .int cl, .ref mO, .int os, .int fc, .ref mA, .ref mB, .ref mU, .ref mW, .int pi, .int wh, .long ms, .int aq, .int da, .ref mX, .ref mY, .long lu, .long ld, .long qu, .long qd])), (mT, .inl (cI, 800, .inl mt))] H := hP
                    have hD : va_D A [(oM, .inr (8, [.int th, .ref mT, .int ml, .int (xa + 1), .int (z_3 + 256), .int xa, .long 0, .int (mw + 1), .ref mN, .ref mD, .ref mF, .ref mS, .ref mL, .ref mR, .ref mE, .ref mK, .ref mV, .int dr, .int dc, .int ds, .int ru, .int cl, .ref mO, .int os, .int fc, .ref mA, .ref mB, .ref mU, .ref mW, .int pi, .int wh, .long ms, .int aq, .int da, .ref mX, .ref mY, .long lu, .long ld, .long qu, .long qd])), (mT, .inl (cI, 800, .inl mt))] := hD
                    refine lv_aload_n hx hb d_Model_next_316 rfl (lv_at hl 2 rfl) ?_
                    refine lv_dup hx hb d_Model_next_317 rfl ?_
                    refine va_get (D := (dC, dI)) (ci := 8) (v := .int (xa + 1)) (C := "PermitRulesModel") (T := T_Model) (N := 40) hx hb htb in_Model hown hK hP 0 rfl rfl 3 (by decide) (htb _ mb_656) (fun _ h9 => h9) rfl d_Model_next_318 ?_
                    refine lv_iconst (v := 1) hx hb d_Model_next_321 (by decide) ?_
                    refine lv_iadd hx hb d_Model_next_322 ?_
                    refine va_put (D := (dC, dI)) (ci := 8) (v := .int ((xa + 1) + 1)) (ty := .int) (C := "PermitRulesModel") (T := T_Model) (N := 40) hx hb htb in_Model ty_Model to_Model nm_Model hown hK hP hD hS 0 rfl rfl 3 (by decide) (htb _ mb_656) (fun _ h9 => h9) rfl (by decide +kernel) rfl rfl (Nat.le_of_ble_eq_true rfl) d_Model_next_323 (fun H locs hP hD hS => ?_)
                    have hP : va_P (dC, dI) vwCl [(oM, .inr (8, [.int th, .ref mT, .int ml, .int ((xa + 1) + 1), .int (z_3 + 256), .int xa, .long 0, .int (mw + 1), .ref mN, .ref mD, .ref mF, .ref mS, .ref mL, .ref mR, .ref mE, .ref mK, .ref mV, .int dr, .int dc, .int ds, .int ru, .int cl, .ref mO, .int os, .int fc, .ref mA, .ref mB, .ref mU, .ref mW, .int pi, .int wh, .long ms, .int aq, .int da, .ref mX, .ref mY, .long lu, .long ld, .long qu, .long qd])), (mT, .inl (cI, 800, .inl mt))] H := hP
                    have hD : va_D A [(oM, .inr (8, [.int th, .ref mT, .int ml, .int ((xa + 1) + 1), .int (z_3 + 256), .int xa, .long 0, .int (mw + 1), .ref mN, .ref mD, .ref mF, .ref mS, .ref mL, .ref mR, .ref mE, .ref mK, .ref mV, .int dr, .int dc, .int ds, .int ru, .int cl, .ref mO, .int os, .int fc, .ref mA, .ref mB, .ref mU, .ref mW, .int pi, .int wh, .long ms, .int aq, .int da, .ref mX, .ref mY, .long lu, .long ld, .long qu, .long qd])), (mT, .inl (cI, 800, .inl mt))] := hD
                    refine lv_aload_n hx hb d_Model_next_326 rfl (lv_at hl 2 rfl) ?_
                    refine lv_aload_n hx hb d_Model_next_327 rfl (lv_at hl 2 rfl) ?_
                    refine va_get (D := (dC, dI)) (ci := 8) (v := .int (mw + 1)) (C := "PermitRulesModel") (T := T_Model) (N := 40) hx hb htb in_Model hown hK hP 0 rfl rfl 7 (by decide) (htb _ mb_660) (fun _ h9 => h9) rfl d_Model_next_328 ?_
                    refine lv_bipush (v := 120) hx hb d_Model_next_331 (by decide) ?_
                    refine lv_icmp_le (tgt := 340) hx hb d_Model_next_333 (by decide) (fun c_15 => ?_) (fun c_15 => ?_)
                    · have hF := hF.trans (if_pos c_15)
                      refine lv_aload_n hx hb d_Model_next_340 rfl (lv_at hl 2 rfl) ?_
                      refine va_get (D := (dC, dI)) (ci := 8) (v := .int (z_3 + 256)) (C := "PermitRulesModel") (T := T_Model) (N := 40) hx hb htb in_Model hown hK hP 0 rfl rfl 4 (by decide) (htb _ mb_657) (fun _ h9 => h9) rfl d_Model_next_341 ?_
                      refine va_put (D := (dC, dI)) (ci := 8) (v := .int (z_3 + 256)) (ty := .int) (C := "PermitRulesModel") (T := T_Model) (N := 40) hx hb htb in_Model ty_Model to_Model nm_Model hown hK hP hD hS 0 rfl rfl 4 (by decide) (htb _ mb_657) (fun _ h9 => h9) rfl (by decide +kernel) rfl rfl (Nat.le_of_ble_eq_true rfl) d_Model_next_344 (fun H locs hP hD hS => ?_)
                      have hP : va_P (dC, dI) vwCl [(oM, .inr (8, [.int th, .ref mT, .int ml, .int ((xa + 1) + 1), .int (z_3 + 256), .int xa, .long 0, .int (mw + 1), .ref mN, .ref mD, .ref mF, .ref mS, .ref mL, .ref mR, .ref mE, .ref mK, .ref mV, .int dr, .int dc, .int ds, .int ru, .int cl, .ref mO, .int os, .int fc, .ref mA, .ref mB, .ref mU, .ref mW, .int pi, .int wh, .long ms, .int aq, .int da, .ref mX, .ref mY, .long lu, .long ld, .long qu, .long qd])), (mT, .inl (cI, 800, .inl mt))] H := hP
                      have hD : va_D A [(oM, .inr (8, [.int th, .ref mT, .int ml, .int ((xa + 1) + 1), .int (z_3 + 256), .int xa, .long 0, .int (mw + 1), .ref mN, .ref mD, .ref mF, .ref mS, .ref mL, .ref mR, .ref mE, .ref mK, .ref mV, .int dr, .int dc, .int ds, .int ru, .int cl, .ref mO, .int os, .int fc, .ref mA, .ref mB, .ref mU, .ref mW, .int pi, .int wh, .long ms, .int aq, .int da, .ref mX, .ref mY, .long lu, .long ld, .long qu, .long qd])), (mT, .inl (cI, 800, .inl mt))] := hD
                      have hP9 := hP.sub (ws' := [(oM, .inr (8, [.int th, .ref mT, .int ml, .int ((xa + 1) + 1), .int (z_3 + 256), .int xa, .long 0, .int (mw + 1), .ref mN, .ref mD, .ref mF, .ref mS, .ref mL, .ref mR, .ref mE, .ref mK, .ref mV, .int dr, .int dc, .int ds, .int ru, .int cl, .ref mO, .int os, .int fc, .ref mA, .ref mB, .ref mU, .ref mW, .int pi, .int wh, .long ms, .int aq, .int da, .ref mX, .ref mY, .long lu, .long ld, .long qu, .long qd])), (mT, .inl (cI, 800, .inl mt))]) [0, 1] rfl
                      have hD9 := hD.sub (ws' := [(oM, .inr (8, [.int th, .ref mT, .int ml, .int ((xa + 1) + 1), .int (z_3 + 256), .int xa, .long 0, .int (mw + 1), .ref mN, .ref mD, .ref mF, .ref mS, .ref mL, .ref mR, .ref mE, .ref mK, .ref mV, .int dr, .int dc, .int ds, .int ru, .int cl, .ref mO, .int os, .int fc, .ref mA, .ref mB, .ref mU, .ref mW, .int pi, .int wh, .long ms, .int aq, .int da, .ref mX, .ref mY, .long lu, .long ld, .long qu, .long qd])), (mT, .inl (cI, 800, .inl mt))]) [0, 1] (by decide) rfl
                      exact W.vret hx hb hr (fun t ht hW => ⟨⟨((xa + 1) + 1, z_3 + 256, xa, 0, mw + 1), rfl, by rw [hF], by rw [ht]; exact hP9, hD9⟩, hS.F ht⟩) hS.2.2 d_Model_next_347
                    · have hF := hF.trans (if_neg c_15)
                      refine lv_iconst (v := 3) hx hb d_Model_next_336 (by decide) ?_
                      refine lv_goto (tgt := 344) hx hb d_Model_next_337 (by decide) ?_
                      refine va_put (D := (dC, dI)) (ci := 8) (v := .int 3) (ty := .int) (C := "PermitRulesModel") (T := T_Model) (N := 40) hx hb htb in_Model ty_Model to_Model nm_Model hown hK hP hD hS 0 rfl rfl 4 (by decide) (htb _ mb_657) (fun _ h9 => h9) rfl (by decide +kernel) rfl rfl (Nat.le_of_ble_eq_true rfl) d_Model_next_344 (fun H locs hP hD hS => ?_)
                      have hP : va_P (dC, dI) vwCl [(oM, .inr (8, [.int th, .ref mT, .int ml, .int ((xa + 1) + 1), .int 3, .int xa, .long 0, .int (mw + 1), .ref mN, .ref mD, .ref mF, .ref mS, .ref mL, .ref mR, .ref mE, .ref mK, .ref mV, .int dr, .int dc, .int ds, .int ru, .int cl, .ref mO, .int os, .int fc, .ref mA, .ref mB, .ref mU, .ref mW, .int pi, .int wh, .long ms, .int aq, .int da, .ref mX, .ref mY, .long lu, .long ld, .long qu, .long qd])), (mT, .inl (cI, 800, .inl mt))] H := hP
                      have hD : va_D A [(oM, .inr (8, [.int th, .ref mT, .int ml, .int ((xa + 1) + 1), .int 3, .int xa, .long 0, .int (mw + 1), .ref mN, .ref mD, .ref mF, .ref mS, .ref mL, .ref mR, .ref mE, .ref mK, .ref mV, .int dr, .int dc, .int ds, .int ru, .int cl, .ref mO, .int os, .int fc, .ref mA, .ref mB, .ref mU, .ref mW, .int pi, .int wh, .long ms, .int aq, .int da, .ref mX, .ref mY, .long lu, .long ld, .long qu, .long qd])), (mT, .inl (cI, 800, .inl mt))] := hD
                      have hP9 := hP.sub (ws' := [(oM, .inr (8, [.int th, .ref mT, .int ml, .int ((xa + 1) + 1), .int 3, .int xa, .long 0, .int (mw + 1), .ref mN, .ref mD, .ref mF, .ref mS, .ref mL, .ref mR, .ref mE, .ref mK, .ref mV, .int dr, .int dc, .int ds, .int ru, .int cl, .ref mO, .int os, .int fc, .ref mA, .ref mB, .ref mU, .ref mW, .int pi, .int wh, .long ms, .int aq, .int da, .ref mX, .ref mY, .long lu, .long ld, .long qu, .long qd])), (mT, .inl (cI, 800, .inl mt))]) [0, 1] rfl
                      have hD9 := hD.sub (ws' := [(oM, .inr (8, [.int th, .ref mT, .int ml, .int ((xa + 1) + 1), .int 3, .int xa, .long 0, .int (mw + 1), .ref mN, .ref mD, .ref mF, .ref mS, .ref mL, .ref mR, .ref mE, .ref mK, .ref mV, .int dr, .int dc, .int ds, .int ru, .int cl, .ref mO, .int os, .int fc, .ref mA, .ref mB, .ref mU, .ref mW, .int pi, .int wh, .long ms, .int aq, .int da, .ref mX, .ref mY, .long lu, .long ld, .long qu, .long qd])), (mT, .inl (cI, 800, .inl mt))]) [0, 1] (by decide) rfl
                      exact W.vret hx hb hr (fun t ht hW => ⟨⟨((xa + 1) + 1, 3, xa, 0, mw + 1), rfl, by rw [hF], by rw [ht]; exact hP9, hD9⟩, hS.F ht⟩) hS.2.2 d_Model_next_347
                · have hF := hF.trans (if_neg c_11)
                  have tc_11 := ti_ne (Eq.refl z_3.toInt) (show (60 : Int32).toInt = 60 by decide) c_11
                  refine lv_iload_n hx hb d_Model_next_288 rfl (lv_at hl 1 rfl) ?_
                  refine lv_bipush (v := 62) hx hb d_Model_next_289 (by decide) ?_
                  refine lv_icmp_ne (tgt := 326) hx hb d_Model_next_291 (by decide) (fun c_16 => ?_) (fun c_16 => ?_)
                  · have hF := hF.trans (if_neg c_16)
                    have tc_16 := ti_ne (Eq.refl z_3.toInt) (show (62 : Int32).toInt = 62 by decide) c_16
                    refine lv_aload_n hx hb d_Model_next_326 rfl (lv_at hl 2 rfl) ?_
                    refine lv_aload_n hx hb d_Model_next_327 rfl (lv_at hl 2 rfl) ?_
                    refine va_get (D := (dC, dI)) (ci := 8) (v := .int (mw + 1)) (C := "PermitRulesModel") (T := T_Model) (N := 40) hx hb htb in_Model hown hK hP 0 rfl rfl 7 (by decide) (htb _ mb_660) (fun _ h9 => h9) rfl d_Model_next_328 ?_
                    refine lv_bipush (v := 120) hx hb d_Model_next_331 (by decide) ?_
                    refine lv_icmp_le (tgt := 340) hx hb d_Model_next_333 (by decide) (fun c_17 => ?_) (fun c_17 => ?_)
                    · have hF := hF.trans (if_pos c_17)
                      refine lv_aload_n hx hb d_Model_next_340 rfl (lv_at hl 2 rfl) ?_
                      refine va_get (D := (dC, dI)) (ci := 8) (v := .int 3) (C := "PermitRulesModel") (T := T_Model) (N := 40) hx hb htb in_Model hown hK hP 0 rfl rfl 4 (by decide) (htb _ mb_657) (fun _ h9 => h9) rfl d_Model_next_341 ?_
                      refine va_put (D := (dC, dI)) (ci := 8) (v := .int 3) (ty := .int) (C := "PermitRulesModel") (T := T_Model) (N := 40) hx hb htb in_Model ty_Model to_Model nm_Model hown hK hP hD hS 0 rfl rfl 4 (by decide) (htb _ mb_657) (fun _ h9 => h9) rfl (by decide +kernel) rfl rfl (Nat.le_of_ble_eq_true rfl) d_Model_next_344 (fun H locs hP hD hS => ?_)
                      have hP : va_P (dC, dI) vwCl [(oM, .inr (8, [.int th, .ref mT, .int ml, .int (xa + 1), .int 3, .int xa, .long 0, .int (mw + 1), .ref mN, .ref mD, .ref mF, .ref mS, .ref mL, .ref mR, .ref mE, .ref mK, .ref mV, .int dr, .int dc, .int ds, .int ru, .int cl, .ref mO, .int os, .int fc, .ref mA, .ref mB, .ref mU, .ref mW, .int pi, .int wh, .long ms, .int aq, .int da, .ref mX, .ref mY, .long lu, .long ld, .long qu, .long qd])), (mT, .inl (cI, 800, .inl mt))] H := hP
                      have hD : va_D A [(oM, .inr (8, [.int th, .ref mT, .int ml, .int (xa + 1), .int 3, .int xa, .long 0, .int (mw + 1), .ref mN, .ref mD, .ref mF, .ref mS, .ref mL, .ref mR, .ref mE, .ref mK, .ref mV, .int dr, .int dc, .int ds, .int ru, .int cl, .ref mO, .int os, .int fc, .ref mA, .ref mB, .ref mU, .ref mW, .int pi, .int wh, .long ms, .int aq, .int da, .ref mX, .ref mY, .long lu, .long ld, .long qu, .long qd])), (mT, .inl (cI, 800, .inl mt))] := hD
                      have hP9 := hP.sub (ws' := [(oM, .inr (8, [.int th, .ref mT, .int ml, .int (xa + 1), .int 3, .int xa, .long 0, .int (mw + 1), .ref mN, .ref mD, .ref mF, .ref mS, .ref mL, .ref mR, .ref mE, .ref mK, .ref mV, .int dr, .int dc, .int ds, .int ru, .int cl, .ref mO, .int os, .int fc, .ref mA, .ref mB, .ref mU, .ref mW, .int pi, .int wh, .long ms, .int aq, .int da, .ref mX, .ref mY, .long lu, .long ld, .long qu, .long qd])), (mT, .inl (cI, 800, .inl mt))]) [0, 1] rfl
                      have hD9 := hD.sub (ws' := [(oM, .inr (8, [.int th, .ref mT, .int ml, .int (xa + 1), .int 3, .int xa, .long 0, .int (mw + 1), .ref mN, .ref mD, .ref mF, .ref mS, .ref mL, .ref mR, .ref mE, .ref mK, .ref mV, .int dr, .int dc, .int ds, .int ru, .int cl, .ref mO, .int os, .int fc, .ref mA, .ref mB, .ref mU, .ref mW, .int pi, .int wh, .long ms, .int aq, .int da, .ref mX, .ref mY, .long lu, .long ld, .long qu, .long qd])), (mT, .inl (cI, 800, .inl mt))]) [0, 1] (by decide) rfl
                      exact W.vret hx hb hr (fun t ht hW => ⟨⟨(xa + 1, 3, xa, 0, mw + 1), rfl, by rw [hF], by rw [ht]; exact hP9, hD9⟩, hS.F ht⟩) hS.2.2 d_Model_next_347
                    · have hF := hF.trans (if_neg c_17)
                      refine lv_iconst (v := 3) hx hb d_Model_next_336 (by decide) ?_
                      refine lv_goto (tgt := 344) hx hb d_Model_next_337 (by decide) ?_
                      refine va_put (D := (dC, dI)) (ci := 8) (v := .int 3) (ty := .int) (C := "PermitRulesModel") (T := T_Model) (N := 40) hx hb htb in_Model ty_Model to_Model nm_Model hown hK hP hD hS 0 rfl rfl 4 (by decide) (htb _ mb_657) (fun _ h9 => h9) rfl (by decide +kernel) rfl rfl (Nat.le_of_ble_eq_true rfl) d_Model_next_344 (fun H locs hP hD hS => ?_)
                      have hP : va_P (dC, dI) vwCl [(oM, .inr (8, [.int th, .ref mT, .int ml, .int (xa + 1), .int 3, .int xa, .long 0, .int (mw + 1), .ref mN, .ref mD, .ref mF, .ref mS, .ref mL, .ref mR, .ref mE, .ref mK, .ref mV, .int dr, .int dc, .int ds, .int ru, .int cl, .ref mO, .int os, .int fc, .ref mA, .ref mB, .ref mU, .ref mW, .int pi, .int wh, .long ms, .int aq, .int da, .ref mX, .ref mY, .long lu, .long ld, .long qu, .long qd])), (mT, .inl (cI, 800, .inl mt))] H := hP
                      have hD : va_D A [(oM, .inr (8, [.int th, .ref mT, .int ml, .int (xa + 1), .int 3, .int xa, .long 0, .int (mw + 1), .ref mN, .ref mD, .ref mF, .ref mS, .ref mL, .ref mR, .ref mE, .ref mK, .ref mV, .int dr, .int dc, .int ds, .int ru, .int cl, .ref mO, .int os, .int fc, .ref mA, .ref mB, .ref mU, .ref mW, .int pi, .int wh, .long ms, .int aq, .int da, .ref mX, .ref mY, .long lu, .long ld, .long qu, .long qd])), (mT, .inl (cI, 800, .inl mt))] := hD
                      have hP9 := hP.sub (ws' := [(oM, .inr (8, [.int th, .ref mT, .int ml, .int (xa + 1), .int 3, .int xa, .long 0, .int (mw + 1), .ref mN, .ref mD, .ref mF, .ref mS, .ref mL, .ref mR, .ref mE, .ref mK, .ref mV, .int dr, .int dc, .int ds, .int ru, .int cl, .ref mO, .int os, .int fc, .ref mA, .ref mB, .ref mU, .ref mW, .int pi, .int wh, .long ms, .int aq, .int da, .ref mX, .ref mY, .long lu, .long ld, .long qu, .long qd])), (mT, .inl (cI, 800, .inl mt))]) [0, 1] rfl
                      have hD9 := hD.sub (ws' := [(oM, .inr (8, [.int th, .ref mT, .int ml, .int (xa + 1), .int 3, .int xa, .long 0, .int (mw + 1), .ref mN, .ref mD, .ref mF, .ref mS, .ref mL, .ref mR, .ref mE, .ref mK, .ref mV, .int dr, .int dc, .int ds, .int ru, .int cl, .ref mO, .int os, .int fc, .ref mA, .ref mB, .ref mU, .ref mW, .int pi, .int wh, .long ms, .int aq, .int da, .ref mX, .ref mY, .long lu, .long ld, .long qu, .long qd])), (mT, .inl (cI, 800, .inl mt))]) [0, 1] (by decide) rfl
                      exact W.vret hx hb hr (fun t ht hW => ⟨⟨(xa + 1, 3, xa, 0, mw + 1), rfl, by rw [hF], by rw [ht]; exact hP9, hD9⟩, hS.F ht⟩) hS.2.2 d_Model_next_347
                  · have hF := hF.trans (if_pos c_16)
                    have tc_16 := ti_eq (Eq.refl z_3.toInt) (show (62 : Int32).toInt = 62 by decide) c_16
                    refine lv_aload_n hx hb d_Model_next_294 rfl (lv_at hl 2 rfl) ?_
                    refine lv_aload_n hx hb d_Model_next_295 rfl (lv_at hl 2 rfl) ?_
                    refine va_get (D := (dC, dI)) (ci := 8) (v := .int (xa + 1)) (C := "PermitRulesModel") (T := T_Model) (N := 40) hx hb htb in_Model hown hK hP 0 rfl rfl 3 (by decide) (htb _ mb_656) (fun _ h9 => h9) rfl d_Model_next_296 ?_
                    have hPc := hP.sub (ws' := [(oM, .inr (8, [.int th, .ref mT, .int ml, .int (xa + 1), .int 3, .int xa, .long 0, .int (mw + 1), .ref mN, .ref mD, .ref mF, .ref mS, .ref mL, .ref mR, .ref mE, .ref mK, .ref mV, .int dr, .int dc, .int ds, .int ru, .int cl, .ref mO, .int os, .int fc, .ref mA, .ref mB, .ref mU, .ref mW, .int pi, .int wh, .long ms, .int aq, .int da, .ref mX, .ref mY, .long lu, .long ld, .long qu, .long qd])), (mT, .inl (cI, 800, .inl mt))]) [0, 1] rfl
                    have hDc := hD.sub (ws' := [(oM, .inr (8, [.int th, .ref mT, .int ml, .int (xa + 1), .int 3, .int xa, .long 0, .int (mw + 1), .ref mN, .ref mD, .ref mF, .ref mS, .ref mL, .ref mR, .ref mE, .ref mK, .ref mV, .int dr, .int dc, .int ds, .int ru, .int cl, .ref mO, .int os, .int fc, .ref mA, .ref mB, .ref mU, .ref mW, .int pi, .int wh, .long ms, .int aq, .int da, .ref mX, .ref mY, .long lu, .long ld, .long qu, .long qd])), (mT, .inl (cI, 800, .inl mt))]) [0, 1] (by decide) rfl
                    have hFc := va_free (wc := [(oM, .inr (8, [.int th, .ref mT, .int ml, .int (xa + 1), .int 3, .int xa, .long 0, .int (mw + 1), .ref mN, .ref mD, .ref mF, .ref mS, .ref mL, .ref mR, .ref mE, .ref mK, .ref mV, .int dr, .int dc, .int ds, .int ru, .int cl, .ref mO, .int os, .int fc, .ref mA, .ref mB, .ref mU, .ref mW, .int pi, .int wh, .long ms, .int aq, .int da, .ref mX, .ref mY, .long lu, .long ld, .long qu, .long qd])), (mT, .inl (cI, 800, .inl mt))]) hD hS hA [0, 1] rfl
                    refine va_calli (va_runV (As := [.int (xa + 1)]) (rest := []) ⟨hx, hb, hml, hown, htb⟩ (c_Model_character l dC dI cB cI cJ oM mT mN mD mF mS mL mR mE mK mV mO mA mB mU mW mX mY _ (xa + 1) th ml (xa + 1) 3 xa 0 (mw + 1) dr dc ds ru cl os fc pi wh ms aq da lu ld qu qd mt (by have q0 := (oi_addE (Eq.refl xa.toInt) (show (1 : Int32).toInt = 1 by decide) (by omega) (by omega)); omega) (by omega)) ⟨callB_of 1 htb (gb_all mb_803) rfl rfl rfl (htb _ mb_9) (htb _ mb_800) (by decide +kernel) ⟨Nat.le_of_ble_eq_true rfl, Nat.le_of_ble_eq_true rfl⟩, htb _ mb_802, htb _ mp_18⟩ ⟨kb_blind, va_recv hK hPc (ci := 8) (q0 := 0) rfl rfl, kb_at hPc hDc hKx⟩ rfl rfl hl.1 rfl (lv_room (Nat.le_of_ble_eq_true rfl)) d_Model_next_299 ⟨Nat.le_of_ble_eq_true rfl, Nat.le_of_ble_eq_true rfl⟩) hS (fun q _ h => hFc q h) hFc (fun z_18 u t H1 locs ht hvm hw hB hz1 hk1 hS => ?_)
                    have hz_18 := hw
                    have hF := hF.trans (lt_e hz_18)
                    obtain ⟨hP1, hD1⟩ := hB
                    rw [ht] at hP1
                    obtain ⟨hP, hD⟩ := va_join (wr := []) (w1 := [(oM, .inr (8, [.int th, .ref mT, .int ml, .int (xa + 1), .int 3, .int xa, .long 0, .int (mw + 1), .ref mN, .ref mD, .ref mF, .ref mS, .ref mL, .ref mR, .ref mE, .ref mK, .ref mV, .int dr, .int dc, .int ds, .int ru, .int cl, .ref mO, .int os, .int fc, .ref mA, .ref mB, .ref mU, .ref mW, .int pi, .int wh, .long ms, .int aq, .int da, .ref mX, .ref mY, .long lu, .long ld, .long qu, .long qd])), (mT, .inl (cI, 800, .inl mt))]) hP hD [0, 1] [] rfl rfl (by decide) (by decide) hk1 hFc hP1 hD1
                    generalize H1 = H at hP hS ⊢
                    have hP : va_P (dC, dI) vwCl [(oM, .inr (8, [.int th, .ref mT, .int ml, .int (xa + 1), .int 3, .int xa, .long 0, .int (mw + 1), .ref mN, .ref mD, .ref mF, .ref mS, .ref mL, .ref mR, .ref mE, .ref mK, .ref mV, .int dr, .int dc, .int ds, .int ru, .int cl, .ref mO, .int os, .int fc, .ref mA, .ref mB, .ref mU, .ref mW, .int pi, .int wh, .long ms, .int aq, .int da, .ref mX, .ref mY, .long lu, .long ld, .long qu, .long qd])), (mT, .inl (cI, 800, .inl mt))] H := hP
                    have hD : va_D A [(oM, .inr (8, [.int th, .ref mT, .int ml, .int (xa + 1), .int 3, .int xa, .long 0, .int (mw + 1), .ref mN, .ref mD, .ref mF, .ref mS, .ref mL, .ref mR, .ref mE, .ref mK, .ref mV, .int dr, .int dc, .int ds, .int ru, .int cl, .ref mO, .int os, .int fc, .ref mA, .ref mB, .ref mU, .ref mW, .int pi, .int wh, .long ms, .int aq, .int da, .ref mX, .ref mY, .long lu, .long ld, .long qu, .long qd])), (mT, .inl (cI, 800, .inl mt))] := hD
                    refine lv_bipush (v := 61) hx hb d_Model_next_302 (by decide) ?_
                    refine lv_icmp_ne (tgt := 326) hx hb d_Model_next_304 (by decide) (fun c_19 => ?_) (fun c_19 => ?_)
                    · have hF := hF.trans (if_neg c_19)
                      have tc_19 := ti_ne (Eq.refl z_18.toInt) (show (61 : Int32).toInt = 61 by decide) c_19
                      refine lv_aload_n hx hb d_Model_next_326 rfl (lv_at hl 2 rfl) ?_
                      refine lv_aload_n hx hb d_Model_next_327 rfl (lv_at hl 2 rfl) ?_
                      refine va_get (D := (dC, dI)) (ci := 8) (v := .int (mw + 1)) (C := "PermitRulesModel") (T := T_Model) (N := 40) hx hb htb in_Model hown hK hP 0 rfl rfl 7 (by decide) (htb _ mb_660) (fun _ h9 => h9) rfl d_Model_next_328 ?_
                      refine lv_bipush (v := 120) hx hb d_Model_next_331 (by decide) ?_
                      refine lv_icmp_le (tgt := 340) hx hb d_Model_next_333 (by decide) (fun c_20 => ?_) (fun c_20 => ?_)
                      · have hF := hF.trans (if_pos c_20)
                        refine lv_aload_n hx hb d_Model_next_340 rfl (lv_at hl 2 rfl) ?_
                        refine va_get (D := (dC, dI)) (ci := 8) (v := .int 3) (C := "PermitRulesModel") (T := T_Model) (N := 40) hx hb htb in_Model hown hK hP 0 rfl rfl 4 (by decide) (htb _ mb_657) (fun _ h9 => h9) rfl d_Model_next_341 ?_
                        refine va_put (D := (dC, dI)) (ci := 8) (v := .int 3) (ty := .int) (C := "PermitRulesModel") (T := T_Model) (N := 40) hx hb htb in_Model ty_Model to_Model nm_Model hown hK hP hD hS 0 rfl rfl 4 (by decide) (htb _ mb_657) (fun _ h9 => h9) rfl (by decide +kernel) rfl rfl (Nat.le_of_ble_eq_true rfl) d_Model_next_344 (fun H locs hP hD hS => ?_)
                        have hP : va_P (dC, dI) vwCl [(oM, .inr (8, [.int th, .ref mT, .int ml, .int (xa + 1), .int 3, .int xa, .long 0, .int (mw + 1), .ref mN, .ref mD, .ref mF, .ref mS, .ref mL, .ref mR, .ref mE, .ref mK, .ref mV, .int dr, .int dc, .int ds, .int ru, .int cl, .ref mO, .int os, .int fc, .ref mA, .ref mB, .ref mU, .ref mW, .int pi, .int wh, .long ms, .int aq, .int da, .ref mX, .ref mY, .long lu, .long ld, .long qu, .long qd])), (mT, .inl (cI, 800, .inl mt))] H := hP
                        have hD : va_D A [(oM, .inr (8, [.int th, .ref mT, .int ml, .int (xa + 1), .int 3, .int xa, .long 0, .int (mw + 1), .ref mN, .ref mD, .ref mF, .ref mS, .ref mL, .ref mR, .ref mE, .ref mK, .ref mV, .int dr, .int dc, .int ds, .int ru, .int cl, .ref mO, .int os, .int fc, .ref mA, .ref mB, .ref mU, .ref mW, .int pi, .int wh, .long ms, .int aq, .int da, .ref mX, .ref mY, .long lu, .long ld, .long qu, .long qd])), (mT, .inl (cI, 800, .inl mt))] := hD
                        have hP9 := hP.sub (ws' := [(oM, .inr (8, [.int th, .ref mT, .int ml, .int (xa + 1), .int 3, .int xa, .long 0, .int (mw + 1), .ref mN, .ref mD, .ref mF, .ref mS, .ref mL, .ref mR, .ref mE, .ref mK, .ref mV, .int dr, .int dc, .int ds, .int ru, .int cl, .ref mO, .int os, .int fc, .ref mA, .ref mB, .ref mU, .ref mW, .int pi, .int wh, .long ms, .int aq, .int da, .ref mX, .ref mY, .long lu, .long ld, .long qu, .long qd])), (mT, .inl (cI, 800, .inl mt))]) [0, 1] rfl
                        have hD9 := hD.sub (ws' := [(oM, .inr (8, [.int th, .ref mT, .int ml, .int (xa + 1), .int 3, .int xa, .long 0, .int (mw + 1), .ref mN, .ref mD, .ref mF, .ref mS, .ref mL, .ref mR, .ref mE, .ref mK, .ref mV, .int dr, .int dc, .int ds, .int ru, .int cl, .ref mO, .int os, .int fc, .ref mA, .ref mB, .ref mU, .ref mW, .int pi, .int wh, .long ms, .int aq, .int da, .ref mX, .ref mY, .long lu, .long ld, .long qu, .long qd])), (mT, .inl (cI, 800, .inl mt))]) [0, 1] (by decide) rfl
                        exact W.vret hx hb hr (fun t ht hW => ⟨⟨(xa + 1, 3, xa, 0, mw + 1), rfl, by rw [hF], by rw [ht]; exact hP9, hD9⟩, hS.F ht⟩) hS.2.2 d_Model_next_347
                      · have hF := hF.trans (if_neg c_20)
                        refine lv_iconst (v := 3) hx hb d_Model_next_336 (by decide) ?_
                        refine lv_goto (tgt := 344) hx hb d_Model_next_337 (by decide) ?_
                        refine va_put (D := (dC, dI)) (ci := 8) (v := .int 3) (ty := .int) (C := "PermitRulesModel") (T := T_Model) (N := 40) hx hb htb in_Model ty_Model to_Model nm_Model hown hK hP hD hS 0 rfl rfl 4 (by decide) (htb _ mb_657) (fun _ h9 => h9) rfl (by decide +kernel) rfl rfl (Nat.le_of_ble_eq_true rfl) d_Model_next_344 (fun H locs hP hD hS => ?_)
                        have hP : va_P (dC, dI) vwCl [(oM, .inr (8, [.int th, .ref mT, .int ml, .int (xa + 1), .int 3, .int xa, .long 0, .int (mw + 1), .ref mN, .ref mD, .ref mF, .ref mS, .ref mL, .ref mR, .ref mE, .ref mK, .ref mV, .int dr, .int dc, .int ds, .int ru, .int cl, .ref mO, .int os, .int fc, .ref mA, .ref mB, .ref mU, .ref mW, .int pi, .int wh, .long ms, .int aq, .int da, .ref mX, .ref mY, .long lu, .long ld, .long qu, .long qd])), (mT, .inl (cI, 800, .inl mt))] H := hP
                        have hD : va_D A [(oM, .inr (8, [.int th, .ref mT, .int ml, .int (xa + 1), .int 3, .int xa, .long 0, .int (mw + 1), .ref mN, .ref mD, .ref mF, .ref mS, .ref mL, .ref mR, .ref mE, .ref mK, .ref mV, .int dr, .int dc, .int ds, .int ru, .int cl, .ref mO, .int os, .int fc, .ref mA, .ref mB, .ref mU, .ref mW, .int pi, .int wh, .long ms, .int aq, .int da, .ref mX, .ref mY, .long lu, .long ld, .long qu, .long qd])), (mT, .inl (cI, 800, .inl mt))] := hD
                        have hP9 := hP.sub (ws' := [(oM, .inr (8, [.int th, .ref mT, .int ml, .int (xa + 1), .int 3, .int xa, .long 0, .int (mw + 1), .ref mN, .ref mD, .ref mF, .ref mS, .ref mL, .ref mR, .ref mE, .ref mK, .ref mV, .int dr, .int dc, .int ds, .int ru, .int cl, .ref mO, .int os, .int fc, .ref mA, .ref mB, .ref mU, .ref mW, .int pi, .int wh, .long ms, .int aq, .int da, .ref mX, .ref mY, .long lu, .long ld, .long qu, .long qd])), (mT, .inl (cI, 800, .inl mt))]) [0, 1] rfl
                        have hD9 := hD.sub (ws' := [(oM, .inr (8, [.int th, .ref mT, .int ml, .int (xa + 1), .int 3, .int xa, .long 0, .int (mw + 1), .ref mN, .ref mD, .ref mF, .ref mS, .ref mL, .ref mR, .ref mE, .ref mK, .ref mV, .int dr, .int dc, .int ds, .int ru, .int cl, .ref mO, .int os, .int fc, .ref mA, .ref mB, .ref mU, .ref mW, .int pi, .int wh, .long ms, .int aq, .int da, .ref mX, .ref mY, .long lu, .long ld, .long qu, .long qd])), (mT, .inl (cI, 800, .inl mt))]) [0, 1] (by decide) rfl
                        exact W.vret hx hb hr (fun t ht hW => ⟨⟨(xa + 1, 3, xa, 0, mw + 1), rfl, by rw [hF], by rw [ht]; exact hP9, hD9⟩, hS.F ht⟩) hS.2.2 d_Model_next_347
                    · have hF := hF.trans (if_pos c_19)
                      have tc_19 := ti_eq (Eq.refl z_18.toInt) (show (61 : Int32).toInt = 61 by decide) c_19
                      refine lv_aload_n hx hb d_Model_next_307 rfl (lv_at hl 2 rfl) ?_
                      refine lv_iload_n hx hb d_Model_next_308 rfl (lv_at hl 1 rfl) ?_
                      refine lv_sipush (v := 256) hx hb d_Model_next_309 (by decide) ?_
                      refine lv_iadd hx hb d_Model_next_312 ?_
                      refine va_put (D := (dC, dI)) (ci := 8) (v := .int (z_3 + 256)) (ty := .int) (C := "PermitRulesModel") (T := T_Model) (N := 40) hx hb htb in_Model ty_Model to_Model nm_Model hown hK hP hD hS 0 rfl rfl 4 (by decide) (htb _ mb_657) (fun _ h9 => h9) rfl (by decide +kernel) rfl rfl (Nat.le_of_ble_eq_true rfl) d_Model_next_313 (fun H locs hP hD hS => ?_)
                      have hP : va_P (dC, dI) vwCl [(oM, .inr (8, [.int th, .ref mT, .int ml, .int (xa + 1), .int (z_3 + 256), .int xa, .long 0, .int (mw + 1), .ref mN, .ref mD, .ref mF, .ref mS, .ref mL, .ref mR, .ref mE, .ref mK, .ref mV, .int dr, .int dc, .int ds, .int ru, .int cl, .ref mO, .int os, .int fc, .ref mA, .ref mB, .ref mU, .ref mW, .int pi, .int wh, .long ms, .int aq, .int da, .ref mX, .ref mY, .long lu, .long ld, .long qu, .long qd])), (mT, .inl (cI, 800, .inl mt))] H := hP
                      have hD : va_D A [(oM, .inr (8, [.int th, .ref mT, .int ml, .int (xa + 1), .int (z_3 + 256), .int xa, .long 0, .int (mw + 1), .ref mN, .ref mD, .ref mF, .ref mS, .ref mL, .ref mR, .ref mE, .ref mK, .ref mV, .int dr, .int dc, .int ds, .int ru, .int cl, .ref mO, .int os, .int fc, .ref mA, .ref mB, .ref mU, .ref mW, .int pi, .int wh, .long ms, .int aq, .int da, .ref mX, .ref mY, .long lu, .long ld, .long qu, .long qd])), (mT, .inl (cI, 800, .inl mt))] := hD
                      refine lv_aload_n hx hb d_Model_next_316 rfl (lv_at hl 2 rfl) ?_
                      refine lv_dup hx hb d_Model_next_317 rfl ?_
                      refine va_get (D := (dC, dI)) (ci := 8) (v := .int (xa + 1)) (C := "PermitRulesModel") (T := T_Model) (N := 40) hx hb htb in_Model hown hK hP 0 rfl rfl 3 (by decide) (htb _ mb_656) (fun _ h9 => h9) rfl d_Model_next_318 ?_
                      refine lv_iconst (v := 1) hx hb d_Model_next_321 (by decide) ?_
                      refine lv_iadd hx hb d_Model_next_322 ?_
                      refine va_put (D := (dC, dI)) (ci := 8) (v := .int ((xa + 1) + 1)) (ty := .int) (C := "PermitRulesModel") (T := T_Model) (N := 40) hx hb htb in_Model ty_Model to_Model nm_Model hown hK hP hD hS 0 rfl rfl 3 (by decide) (htb _ mb_656) (fun _ h9 => h9) rfl (by decide +kernel) rfl rfl (Nat.le_of_ble_eq_true rfl) d_Model_next_323 (fun H locs hP hD hS => ?_)
                      have hP : va_P (dC, dI) vwCl [(oM, .inr (8, [.int th, .ref mT, .int ml, .int ((xa + 1) + 1), .int (z_3 + 256), .int xa, .long 0, .int (mw + 1), .ref mN, .ref mD, .ref mF, .ref mS, .ref mL, .ref mR, .ref mE, .ref mK, .ref mV, .int dr, .int dc, .int ds, .int ru, .int cl, .ref mO, .int os, .int fc, .ref mA, .ref mB, .ref mU, .ref mW, .int pi, .int wh, .long ms, .int aq, .int da, .ref mX, .ref mY, .long lu, .long ld, .long qu, .long qd])), (mT, .inl (cI, 800, .inl mt))] H := hP
                      have hD : va_D A [(oM, .inr (8, [.int th, .ref mT, .int ml, .int ((xa + 1) + 1), .int (z_3 + 256), .int xa, .long 0, .int (mw + 1), .ref mN, .ref mD, .ref mF, .ref mS, .ref mL, .ref mR, .ref mE, .ref mK, .ref mV, .int dr, .int dc, .int ds, .int ru, .int cl, .ref mO, .int os, .int fc, .ref mA, .ref mB, .ref mU, .ref mW, .int pi, .int wh, .long ms, .int aq, .int da, .ref mX, .ref mY, .long lu, .long ld, .long qu, .long qd])), (mT, .inl (cI, 800, .inl mt))] := hD
                      refine lv_aload_n hx hb d_Model_next_326 rfl (lv_at hl 2 rfl) ?_
                      refine lv_aload_n hx hb d_Model_next_327 rfl (lv_at hl 2 rfl) ?_
                      refine va_get (D := (dC, dI)) (ci := 8) (v := .int (mw + 1)) (C := "PermitRulesModel") (T := T_Model) (N := 40) hx hb htb in_Model hown hK hP 0 rfl rfl 7 (by decide) (htb _ mb_660) (fun _ h9 => h9) rfl d_Model_next_328 ?_
                      refine lv_bipush (v := 120) hx hb d_Model_next_331 (by decide) ?_
                      refine lv_icmp_le (tgt := 340) hx hb d_Model_next_333 (by decide) (fun c_21 => ?_) (fun c_21 => ?_)
                      · have hF := hF.trans (if_pos c_21)
                        refine lv_aload_n hx hb d_Model_next_340 rfl (lv_at hl 2 rfl) ?_
                        refine va_get (D := (dC, dI)) (ci := 8) (v := .int (z_3 + 256)) (C := "PermitRulesModel") (T := T_Model) (N := 40) hx hb htb in_Model hown hK hP 0 rfl rfl 4 (by decide) (htb _ mb_657) (fun _ h9 => h9) rfl d_Model_next_341 ?_
                        refine va_put (D := (dC, dI)) (ci := 8) (v := .int (z_3 + 256)) (ty := .int) (C := "PermitRulesModel") (T := T_Model) (N := 40) hx hb htb in_Model ty_Model to_Model nm_Model hown hK hP hD hS 0 rfl rfl 4 (by decide) (htb _ mb_657) (fun _ h9 => h9) rfl (by decide +kernel) rfl rfl (Nat.le_of_ble_eq_true rfl) d_Model_next_344 (fun H locs hP hD hS => ?_)
                        have hP : va_P (dC, dI) vwCl [(oM, .inr (8, [.int th, .ref mT, .int ml, .int ((xa + 1) + 1), .int (z_3 + 256), .int xa, .long 0, .int (mw + 1), .ref mN, .ref mD, .ref mF, .ref mS, .ref mL, .ref mR, .ref mE, .ref mK, .ref mV, .int dr, .int dc, .int ds, .int ru, .int cl, .ref mO, .int os, .int fc, .ref mA, .ref mB, .ref mU, .ref mW, .int pi, .int wh, .long ms, .int aq, .int da, .ref mX, .ref mY, .long lu, .long ld, .long qu, .long qd])), (mT, .inl (cI, 800, .inl mt))] H := hP
                        have hD : va_D A [(oM, .inr (8, [.int th, .ref mT, .int ml, .int ((xa + 1) + 1), .int (z_3 + 256), .int xa, .long 0, .int (mw + 1), .ref mN, .ref mD, .ref mF, .ref mS, .ref mL, .ref mR, .ref mE, .ref mK, .ref mV, .int dr, .int dc, .int ds, .int ru, .int cl, .ref mO, .int os, .int fc, .ref mA, .ref mB, .ref mU, .ref mW, .int pi, .int wh, .long ms, .int aq, .int da, .ref mX, .ref mY, .long lu, .long ld, .long qu, .long qd])), (mT, .inl (cI, 800, .inl mt))] := hD
                        have hP9 := hP.sub (ws' := [(oM, .inr (8, [.int th, .ref mT, .int ml, .int ((xa + 1) + 1), .int (z_3 + 256), .int xa, .long 0, .int (mw + 1), .ref mN, .ref mD, .ref mF, .ref mS, .ref mL, .ref mR, .ref mE, .ref mK, .ref mV, .int dr, .int dc, .int ds, .int ru, .int cl, .ref mO, .int os, .int fc, .ref mA, .ref mB, .ref mU, .ref mW, .int pi, .int wh, .long ms, .int aq, .int da, .ref mX, .ref mY, .long lu, .long ld, .long qu, .long qd])), (mT, .inl (cI, 800, .inl mt))]) [0, 1] rfl
                        have hD9 := hD.sub (ws' := [(oM, .inr (8, [.int th, .ref mT, .int ml, .int ((xa + 1) + 1), .int (z_3 + 256), .int xa, .long 0, .int (mw + 1), .ref mN, .ref mD, .ref mF, .ref mS, .ref mL, .ref mR, .ref mE, .ref mK, .ref mV, .int dr, .int dc, .int ds, .int ru, .int cl, .ref mO, .int os, .int fc, .ref mA, .ref mB, .ref mU, .ref mW, .int pi, .int wh, .long ms, .int aq, .int da, .ref mX, .ref mY, .long lu, .long ld, .long qu, .long qd])), (mT, .inl (cI, 800, .inl mt))]) [0, 1] (by decide) rfl
                        exact W.vret hx hb hr (fun t ht hW => ⟨⟨((xa + 1) + 1, z_3 + 256, xa, 0, mw + 1), rfl, by rw [hF], by rw [ht]; exact hP9, hD9⟩, hS.F ht⟩) hS.2.2 d_Model_next_347
                      · have hF := hF.trans (if_neg c_21)
                        refine lv_iconst (v := 3) hx hb d_Model_next_336 (by decide) ?_
                        refine lv_goto (tgt := 344) hx hb d_Model_next_337 (by decide) ?_
                        refine va_put (D := (dC, dI)) (ci := 8) (v := .int 3) (ty := .int) (C := "PermitRulesModel") (T := T_Model) (N := 40) hx hb htb in_Model ty_Model to_Model nm_Model hown hK hP hD hS 0 rfl rfl 4 (by decide) (htb _ mb_657) (fun _ h9 => h9) rfl (by decide +kernel) rfl rfl (Nat.le_of_ble_eq_true rfl) d_Model_next_344 (fun H locs hP hD hS => ?_)
                        have hP : va_P (dC, dI) vwCl [(oM, .inr (8, [.int th, .ref mT, .int ml, .int ((xa + 1) + 1), .int 3, .int xa, .long 0, .int (mw + 1), .ref mN, .ref mD, .ref mF, .ref mS, .ref mL, .ref mR, .ref mE, .ref mK, .ref mV, .int dr, .int dc, .int ds, .int ru, .int cl, .ref mO, .int os, .int fc, .ref mA, .ref mB, .ref mU, .ref mW, .int pi, .int wh, .long ms, .int aq, .int da, .ref mX, .ref mY, .long lu, .long ld, .long qu, .long qd])), (mT, .inl (cI, 800, .inl mt))] H := hP
                        have hD : va_D A [(oM, .inr (8, [.int th, .ref mT, .int ml, .int ((xa + 1) + 1), .int 3, .int xa, .long 0, .int (mw + 1), .ref mN, .ref mD, .ref mF, .ref mS, .ref mL, .ref mR, .ref mE, .ref mK, .ref mV, .int dr, .int dc, .int ds, .int ru, .int cl, .ref mO, .int os, .int fc, .ref mA, .ref mB, .ref mU, .ref mW, .int pi, .int wh, .long ms, .int aq, .int da, .ref mX, .ref mY, .long lu, .long ld, .long qu, .long qd])), (mT, .inl (cI, 800, .inl mt))] := hD
                        have hP9 := hP.sub (ws' := [(oM, .inr (8, [.int th, .ref mT, .int ml, .int ((xa + 1) + 1), .int 3, .int xa, .long 0, .int (mw + 1), .ref mN, .ref mD, .ref mF, .ref mS, .ref mL, .ref mR, .ref mE, .ref mK, .ref mV, .int dr, .int dc, .int ds, .int ru, .int cl, .ref mO, .int os, .int fc, .ref mA, .ref mB, .ref mU, .ref mW, .int pi, .int wh, .long ms, .int aq, .int da, .ref mX, .ref mY, .long lu, .long ld, .long qu, .long qd])), (mT, .inl (cI, 800, .inl mt))]) [0, 1] rfl
                        have hD9 := hD.sub (ws' := [(oM, .inr (8, [.int th, .ref mT, .int ml, .int ((xa + 1) + 1), .int 3, .int xa, .long 0, .int (mw + 1), .ref mN, .ref mD, .ref mF, .ref mS, .ref mL, .ref mR, .ref mE, .ref mK, .ref mV, .int dr, .int dc, .int ds, .int ru, .int cl, .ref mO, .int os, .int fc, .ref mA, .ref mB, .ref mU, .ref mW, .int pi, .int wh, .long ms, .int aq, .int da, .ref mX, .ref mY, .long lu, .long ld, .long qu, .long qd])), (mT, .inl (cI, 800, .inl mt))]) [0, 1] (by decide) rfl
                        exact W.vret hx hb hr (fun t ht hW => ⟨⟨((xa + 1) + 1, 3, xa, 0, mw + 1), rfl, by rw [hF], by rw [ht]; exact hP9, hD9⟩, hS.F ht⟩) hS.2.2 d_Model_next_347
              · have hF := hF.trans (if_neg c_10)
                have tc_10 := ti_ne (Eq.refl z_9.toInt) (show (0 : Int32).toInt = 0 by decide) c_10
                refine lv_iload_n hx hb d_Model_next_274 rfl (lv_at hl 1 rfl) ?_
                refine lv_goto (tgt := 279) hx hb d_Model_next_275 (by decide) ?_
                refine va_put (D := (dC, dI)) (ci := 8) (v := .int z_3) (ty := .int) (C := "PermitRulesModel") (T := T_Model) (N := 40) hx hb htb in_Model ty_Model to_Model nm_Model hown hK hP hD hS 0 rfl rfl 4 (by decide) (htb _ mb_657) (fun _ h9 => h9) rfl (by decide +kernel) rfl rfl (Nat.le_of_ble_eq_true rfl) d_Model_next_279 (fun H locs hP hD hS => ?_)
                have hP : va_P (dC, dI) vwCl [(oM, .inr (8, [.int th, .ref mT, .int ml, .int (xa + 1), .int z_3, .int xa, .long 0, .int (mw + 1), .ref mN, .ref mD, .ref mF, .ref mS, .ref mL, .ref mR, .ref mE, .ref mK, .ref mV, .int dr, .int dc, .int ds, .int ru, .int cl, .ref mO, .int os, .int fc, .ref mA, .ref mB, .ref mU, .ref mW, .int pi, .int wh, .long ms, .int aq, .int da, .ref mX, .ref mY, .long lu, .long ld, .long qu, .long qd])), (mT, .inl (cI, 800, .inl mt))] H := hP
                have hD : va_D A [(oM, .inr (8, [.int th, .ref mT, .int ml, .int (xa + 1), .int z_3, .int xa, .long 0, .int (mw + 1), .ref mN, .ref mD, .ref mF, .ref mS, .ref mL, .ref mR, .ref mE, .ref mK, .ref mV, .int dr, .int dc, .int ds, .int ru, .int cl, .ref mO, .int os, .int fc, .ref mA, .ref mB, .ref mU, .ref mW, .int pi, .int wh, .long ms, .int aq, .int da, .ref mX, .ref mY, .long lu, .long ld, .long qu, .long qd])), (mT, .inl (cI, 800, .inl mt))] := hD
                refine lv_iload_n hx hb d_Model_next_282 rfl (lv_at hl 1 rfl) ?_
                refine lv_bipush (v := 60) hx hb d_Model_next_283 (by decide) ?_
                refine lv_icmp_eq (tgt := 294) hx hb d_Model_next_285 (by decide) (fun c_22 => ?_) (fun c_22 => ?_)
                · have hF := hF.trans (if_pos c_22)
                  have tc_22 := ti_eq (Eq.refl z_3.toInt) (show (60 : Int32).toInt = 60 by decide) c_22
                  refine lv_aload_n hx hb d_Model_next_294 rfl (lv_at hl 2 rfl) ?_
                  refine lv_aload_n hx hb d_Model_next_295 rfl (lv_at hl 2 rfl) ?_
                  refine va_get (D := (dC, dI)) (ci := 8) (v := .int (xa + 1)) (C := "PermitRulesModel") (T := T_Model) (N := 40) hx hb htb in_Model hown hK hP 0 rfl rfl 3 (by decide) (htb _ mb_656) (fun _ h9 => h9) rfl d_Model_next_296 ?_
                  have hPc := hP.sub (ws' := [(oM, .inr (8, [.int th, .ref mT, .int ml, .int (xa + 1), .int z_3, .int xa, .long 0, .int (mw + 1), .ref mN, .ref mD, .ref mF, .ref mS, .ref mL, .ref mR, .ref mE, .ref mK, .ref mV, .int dr, .int dc, .int ds, .int ru, .int cl, .ref mO, .int os, .int fc, .ref mA, .ref mB, .ref mU, .ref mW, .int pi, .int wh, .long ms, .int aq, .int da, .ref mX, .ref mY, .long lu, .long ld, .long qu, .long qd])), (mT, .inl (cI, 800, .inl mt))]) [0, 1] rfl
                  have hDc := hD.sub (ws' := [(oM, .inr (8, [.int th, .ref mT, .int ml, .int (xa + 1), .int z_3, .int xa, .long 0, .int (mw + 1), .ref mN, .ref mD, .ref mF, .ref mS, .ref mL, .ref mR, .ref mE, .ref mK, .ref mV, .int dr, .int dc, .int ds, .int ru, .int cl, .ref mO, .int os, .int fc, .ref mA, .ref mB, .ref mU, .ref mW, .int pi, .int wh, .long ms, .int aq, .int da, .ref mX, .ref mY, .long lu, .long ld, .long qu, .long qd])), (mT, .inl (cI, 800, .inl mt))]) [0, 1] (by decide) rfl
                  have hFc := va_free (wc := [(oM, .inr (8, [.int th, .ref mT, .int ml, .int (xa + 1), .int z_3, .int xa, .long 0, .int (mw + 1), .ref mN, .ref mD, .ref mF, .ref mS, .ref mL, .ref mR, .ref mE, .ref mK, .ref mV, .int dr, .int dc, .int ds, .int ru, .int cl, .ref mO, .int os, .int fc, .ref mA, .ref mB, .ref mU, .ref mW, .int pi, .int wh, .long ms, .int aq, .int da, .ref mX, .ref mY, .long lu, .long ld, .long qu, .long qd])), (mT, .inl (cI, 800, .inl mt))]) hD hS hA [0, 1] rfl
                  refine va_calli (va_runV (As := [.int (xa + 1)]) (rest := []) ⟨hx, hb, hml, hown, htb⟩ (c_Model_character l dC dI cB cI cJ oM mT mN mD mF mS mL mR mE mK mV mO mA mB mU mW mX mY _ (xa + 1) th ml (xa + 1) z_3 xa 0 (mw + 1) dr dc ds ru cl os fc pi wh ms aq da lu ld qu qd mt (by have q0 := (oi_addE (Eq.refl xa.toInt) (show (1 : Int32).toInt = 1 by decide) (by omega) (by omega)); omega) (by omega)) ⟨callB_of 1 htb (gb_all mb_803) rfl rfl rfl (htb _ mb_9) (htb _ mb_800) (by decide +kernel) ⟨Nat.le_of_ble_eq_true rfl, Nat.le_of_ble_eq_true rfl⟩, htb _ mb_802, htb _ mp_18⟩ ⟨kb_blind, va_recv hK hPc (ci := 8) (q0 := 0) rfl rfl, kb_at hPc hDc hKx⟩ rfl rfl hl.1 rfl (lv_room (Nat.le_of_ble_eq_true rfl)) d_Model_next_299 ⟨Nat.le_of_ble_eq_true rfl, Nat.le_of_ble_eq_true rfl⟩) hS (fun q _ h => hFc q h) hFc (fun z_23 u t H1 locs ht hvm hw hB hz1 hk1 hS => ?_)
                  have hz_23 := hw
                  have hF := hF.trans (lt_e hz_23)
                  obtain ⟨hP1, hD1⟩ := hB
                  rw [ht] at hP1
                  obtain ⟨hP, hD⟩ := va_join (wr := []) (w1 := [(oM, .inr (8, [.int th, .ref mT, .int ml, .int (xa + 1), .int z_3, .int xa, .long 0, .int (mw + 1), .ref mN, .ref mD, .ref mF, .ref mS, .ref mL, .ref mR, .ref mE, .ref mK, .ref mV, .int dr, .int dc, .int ds, .int ru, .int cl, .ref mO, .int os, .int fc, .ref mA, .ref mB, .ref mU, .ref mW, .int pi, .int wh, .long ms, .int aq, .int da, .ref mX, .ref mY, .long lu, .long ld, .long qu, .long qd])), (mT, .inl (cI, 800, .inl mt))]) hP hD [0, 1] [] rfl rfl (by decide) (by decide) hk1 hFc hP1 hD1
                  generalize H1 = H at hP hS ⊢
                  have hP : va_P (dC, dI) vwCl [(oM, .inr (8, [.int th, .ref mT, .int ml, .int (xa + 1), .int z_3, .int xa, .long 0, .int (mw + 1), .ref mN, .ref mD, .ref mF, .ref mS, .ref mL, .ref mR, .ref mE, .ref mK, .ref mV, .int dr, .int dc, .int ds, .int ru, .int cl, .ref mO, .int os, .int fc, .ref mA, .ref mB, .ref mU, .ref mW, .int pi, .int wh, .long ms, .int aq, .int da, .ref mX, .ref mY, .long lu, .long ld, .long qu, .long qd])), (mT, .inl (cI, 800, .inl mt))] H := hP
                  have hD : va_D A [(oM, .inr (8, [.int th, .ref mT, .int ml, .int (xa + 1), .int z_3, .int xa, .long 0, .int (mw + 1), .ref mN, .ref mD, .ref mF, .ref mS, .ref mL, .ref mR, .ref mE, .ref mK, .ref mV, .int dr, .int dc, .int ds, .int ru, .int cl, .ref mO, .int os, .int fc, .ref mA, .ref mB, .ref mU, .ref mW, .int pi, .int wh, .long ms, .int aq, .int da, .ref mX, .ref mY, .long lu, .long ld, .long qu, .long qd])), (mT, .inl (cI, 800, .inl mt))] := hD
                  refine lv_bipush (v := 61) hx hb d_Model_next_302 (by decide) ?_
                  refine lv_icmp_ne (tgt := 326) hx hb d_Model_next_304 (by decide) (fun c_24 => ?_) (fun c_24 => ?_)
                  · have hF := hF.trans (if_neg c_24)
                    have tc_24 := ti_ne (Eq.refl z_23.toInt) (show (61 : Int32).toInt = 61 by decide) c_24
                    refine lv_aload_n hx hb d_Model_next_326 rfl (lv_at hl 2 rfl) ?_
                    refine lv_aload_n hx hb d_Model_next_327 rfl (lv_at hl 2 rfl) ?_
                    refine va_get (D := (dC, dI)) (ci := 8) (v := .int (mw + 1)) (C := "PermitRulesModel") (T := T_Model) (N := 40) hx hb htb in_Model hown hK hP 0 rfl rfl 7 (by decide) (htb _ mb_660) (fun _ h9 => h9) rfl d_Model_next_328 ?_
                    refine lv_bipush (v := 120) hx hb d_Model_next_331 (by decide) ?_
                    refine lv_icmp_le (tgt := 340) hx hb d_Model_next_333 (by decide) (fun c_25 => ?_) (fun c_25 => ?_)
                    · have hF := hF.trans (if_pos c_25)
                      refine lv_aload_n hx hb d_Model_next_340 rfl (lv_at hl 2 rfl) ?_
                      refine va_get (D := (dC, dI)) (ci := 8) (v := .int z_3) (C := "PermitRulesModel") (T := T_Model) (N := 40) hx hb htb in_Model hown hK hP 0 rfl rfl 4 (by decide) (htb _ mb_657) (fun _ h9 => h9) rfl d_Model_next_341 ?_
                      refine va_put (D := (dC, dI)) (ci := 8) (v := .int z_3) (ty := .int) (C := "PermitRulesModel") (T := T_Model) (N := 40) hx hb htb in_Model ty_Model to_Model nm_Model hown hK hP hD hS 0 rfl rfl 4 (by decide) (htb _ mb_657) (fun _ h9 => h9) rfl (by decide +kernel) rfl rfl (Nat.le_of_ble_eq_true rfl) d_Model_next_344 (fun H locs hP hD hS => ?_)
                      have hP : va_P (dC, dI) vwCl [(oM, .inr (8, [.int th, .ref mT, .int ml, .int (xa + 1), .int z_3, .int xa, .long 0, .int (mw + 1), .ref mN, .ref mD, .ref mF, .ref mS, .ref mL, .ref mR, .ref mE, .ref mK, .ref mV, .int dr, .int dc, .int ds, .int ru, .int cl, .ref mO, .int os, .int fc, .ref mA, .ref mB, .ref mU, .ref mW, .int pi, .int wh, .long ms, .int aq, .int da, .ref mX, .ref mY, .long lu, .long ld, .long qu, .long qd])), (mT, .inl (cI, 800, .inl mt))] H := hP
                      have hD : va_D A [(oM, .inr (8, [.int th, .ref mT, .int ml, .int (xa + 1), .int z_3, .int xa, .long 0, .int (mw + 1), .ref mN, .ref mD, .ref mF, .ref mS, .ref mL, .ref mR, .ref mE, .ref mK, .ref mV, .int dr, .int dc, .int ds, .int ru, .int cl, .ref mO, .int os, .int fc, .ref mA, .ref mB, .ref mU, .ref mW, .int pi, .int wh, .long ms, .int aq, .int da, .ref mX, .ref mY, .long lu, .long ld, .long qu, .long qd])), (mT, .inl (cI, 800, .inl mt))] := hD
                      have hP9 := hP.sub (ws' := [(oM, .inr (8, [.int th, .ref mT, .int ml, .int (xa + 1), .int z_3, .int xa, .long 0, .int (mw + 1), .ref mN, .ref mD, .ref mF, .ref mS, .ref mL, .ref mR, .ref mE, .ref mK, .ref mV, .int dr, .int dc, .int ds, .int ru, .int cl, .ref mO, .int os, .int fc, .ref mA, .ref mB, .ref mU, .ref mW, .int pi, .int wh, .long ms, .int aq, .int da, .ref mX, .ref mY, .long lu, .long ld, .long qu, .long qd])), (mT, .inl (cI, 800, .inl mt))]) [0, 1] rfl
                      have hD9 := hD.sub (ws' := [(oM, .inr (8, [.int th, .ref mT, .int ml, .int (xa + 1), .int z_3, .int xa, .long 0, .int (mw + 1), .ref mN, .ref mD, .ref mF, .ref mS, .ref mL, .ref mR, .ref mE, .ref mK, .ref mV, .int dr, .int dc, .int ds, .int ru, .int cl, .ref mO, .int os, .int fc, .ref mA, .ref mB, .ref mU, .ref mW, .int pi, .int wh, .long ms, .int aq, .int da, .ref mX, .ref mY, .long lu, .long ld, .long qu, .long qd])), (mT, .inl (cI, 800, .inl mt))]) [0, 1] (by decide) rfl
                      exact W.vret hx hb hr (fun t ht hW => ⟨⟨(xa + 1, z_3, xa, 0, mw + 1), rfl, by rw [hF], by rw [ht]; exact hP9, hD9⟩, hS.F ht⟩) hS.2.2 d_Model_next_347
                    · have hF := hF.trans (if_neg c_25)
                      refine lv_iconst (v := 3) hx hb d_Model_next_336 (by decide) ?_
                      refine lv_goto (tgt := 344) hx hb d_Model_next_337 (by decide) ?_
                      refine va_put (D := (dC, dI)) (ci := 8) (v := .int 3) (ty := .int) (C := "PermitRulesModel") (T := T_Model) (N := 40) hx hb htb in_Model ty_Model to_Model nm_Model hown hK hP hD hS 0 rfl rfl 4 (by decide) (htb _ mb_657) (fun _ h9 => h9) rfl (by decide +kernel) rfl rfl (Nat.le_of_ble_eq_true rfl) d_Model_next_344 (fun H locs hP hD hS => ?_)
                      have hP : va_P (dC, dI) vwCl [(oM, .inr (8, [.int th, .ref mT, .int ml, .int (xa + 1), .int 3, .int xa, .long 0, .int (mw + 1), .ref mN, .ref mD, .ref mF, .ref mS, .ref mL, .ref mR, .ref mE, .ref mK, .ref mV, .int dr, .int dc, .int ds, .int ru, .int cl, .ref mO, .int os, .int fc, .ref mA, .ref mB, .ref mU, .ref mW, .int pi, .int wh, .long ms, .int aq, .int da, .ref mX, .ref mY, .long lu, .long ld, .long qu, .long qd])), (mT, .inl (cI, 800, .inl mt))] H := hP
                      have hD : va_D A [(oM, .inr (8, [.int th, .ref mT, .int ml, .int (xa + 1), .int 3, .int xa, .long 0, .int (mw + 1), .ref mN, .ref mD, .ref mF, .ref mS, .ref mL, .ref mR, .ref mE, .ref mK, .ref mV, .int dr, .int dc, .int ds, .int ru, .int cl, .ref mO, .int os, .int fc, .ref mA, .ref mB, .ref mU, .ref mW, .int pi, .int wh, .long ms, .int aq, .int da, .ref mX, .ref mY, .long lu, .long ld, .long qu, .long qd])), (mT, .inl (cI, 800, .inl mt))] := hD
                      have hP9 := hP.sub (ws' := [(oM, .inr (8, [.int th, .ref mT, .int ml, .int (xa + 1), .int 3, .int xa, .long 0, .int (mw + 1), .ref mN, .ref mD, .ref mF, .ref mS, .ref mL, .ref mR, .ref mE, .ref mK, .ref mV, .int dr, .int dc, .int ds, .int ru, .int cl, .ref mO, .int os, .int fc, .ref mA, .ref mB, .ref mU, .ref mW, .int pi, .int wh, .long ms, .int aq, .int da, .ref mX, .ref mY, .long lu, .long ld, .long qu, .long qd])), (mT, .inl (cI, 800, .inl mt))]) [0, 1] rfl
                      have hD9 := hD.sub (ws' := [(oM, .inr (8, [.int th, .ref mT, .int ml, .int (xa + 1), .int 3, .int xa, .long 0, .int (mw + 1), .ref mN, .ref mD, .ref mF, .ref mS, .ref mL, .ref mR, .ref mE, .ref mK, .ref mV, .int dr, .int dc, .int ds, .int ru, .int cl, .ref mO, .int os, .int fc, .ref mA, .ref mB, .ref mU, .ref mW, .int pi, .int wh, .long ms, .int aq, .int da, .ref mX, .ref mY, .long lu, .long ld, .long qu, .long qd])), (mT, .inl (cI, 800, .inl mt))]) [0, 1] (by decide) rfl
                      exact W.vret hx hb hr (fun t ht hW => ⟨⟨(xa + 1, 3, xa, 0, mw + 1), rfl, by rw [hF], by rw [ht]; exact hP9, hD9⟩, hS.F ht⟩) hS.2.2 d_Model_next_347
                  · have hF := hF.trans (if_pos c_24)
                    have tc_24 := ti_eq (Eq.refl z_23.toInt) (show (61 : Int32).toInt = 61 by decide) c_24
                    refine lv_aload_n hx hb d_Model_next_307 rfl (lv_at hl 2 rfl) ?_
                    refine lv_iload_n hx hb d_Model_next_308 rfl (lv_at hl 1 rfl) ?_
                    refine lv_sipush (v := 256) hx hb d_Model_next_309 (by decide) ?_
                    refine lv_iadd hx hb d_Model_next_312 ?_
                    refine va_put (D := (dC, dI)) (ci := 8) (v := .int (z_3 + 256)) (ty := .int) (C := "PermitRulesModel") (T := T_Model) (N := 40) hx hb htb in_Model ty_Model to_Model nm_Model hown hK hP hD hS 0 rfl rfl 4 (by decide) (htb _ mb_657) (fun _ h9 => h9) rfl (by decide +kernel) rfl rfl (Nat.le_of_ble_eq_true rfl) d_Model_next_313 (fun H locs hP hD hS => ?_)
                    have hP : va_P (dC, dI) vwCl [(oM, .inr (8, [.int th, .ref mT, .int ml, .int (xa + 1), .int (z_3 + 256), .int xa, .long 0, .int (mw + 1), .ref mN, .ref mD, .ref mF, .ref mS, .ref mL, .ref mR, .ref mE, .ref mK, .ref mV, .int dr, .int dc, .int ds, .int ru, .int cl, .ref mO, .int os, .int fc, .ref mA, .ref mB, .ref mU, .ref mW, .int pi, .int wh, .long ms, .int aq, .int da, .ref mX, .ref mY, .long lu, .long ld, .long qu, .long qd])), (mT, .inl (cI, 800, .inl mt))] H := hP
                    have hD : va_D A [(oM, .inr (8, [.int th, .ref mT, .int ml, .int (xa + 1), .int (z_3 + 256), .int xa, .long 0, .int (mw + 1), .ref mN, .ref mD, .ref mF, .ref mS, .ref mL, .ref mR, .ref mE, .ref mK, .ref mV, .int dr, .int dc, .int ds, .int ru, .int cl, .ref mO, .int os, .int fc, .ref mA, .ref mB, .ref mU, .ref mW, .int pi, .int wh, .long ms, .int aq, .int da, .ref mX, .ref mY, .long lu, .long ld, .long qu, .long qd])), (mT, .inl (cI, 800, .inl mt))] := hD
                    refine lv_aload_n hx hb d_Model_next_316 rfl (lv_at hl 2 rfl) ?_
                    refine lv_dup hx hb d_Model_next_317 rfl ?_
                    refine va_get (D := (dC, dI)) (ci := 8) (v := .int (xa + 1)) (C := "PermitRulesModel") (T := T_Model) (N := 40) hx hb htb in_Model hown hK hP 0 rfl rfl 3 (by decide) (htb _ mb_656) (fun _ h9 => h9) rfl d_Model_next_318 ?_
                    refine lv_iconst (v := 1) hx hb d_Model_next_321 (by decide) ?_
                    refine lv_iadd hx hb d_Model_next_322 ?_
                    refine va_put (D := (dC, dI)) (ci := 8) (v := .int ((xa + 1) + 1)) (ty := .int) (C := "PermitRulesModel") (T := T_Model) (N := 40) hx hb htb in_Model ty_Model to_Model nm_Model hown hK hP hD hS 0 rfl rfl 3 (by decide) (htb _ mb_656) (fun _ h9 => h9) rfl (by decide +kernel) rfl rfl (Nat.le_of_ble_eq_true rfl) d_Model_next_323 (fun H locs hP hD hS => ?_)
                    have hP : va_P (dC, dI) vwCl [(oM, .inr (8, [.int th, .ref mT, .int ml, .int ((xa + 1) + 1), .int (z_3 + 256), .int xa, .long 0, .int (mw + 1), .ref mN, .ref mD, .ref mF, .ref mS, .ref mL, .ref mR, .ref mE, .ref mK, .ref mV, .int dr, .int dc, .int ds, .int ru, .int cl, .ref mO, .int os, .int fc, .ref mA, .ref mB, .ref mU, .ref mW, .int pi, .int wh, .long ms, .int aq, .int da, .ref mX, .ref mY, .long lu, .long ld, .long qu, .long qd])), (mT, .inl (cI, 800, .inl mt))] H := hP
                    have hD : va_D A [(oM, .inr (8, [.int th, .ref mT, .int ml, .int ((xa + 1) + 1), .int (z_3 + 256), .int xa, .long 0, .int (mw + 1), .ref mN, .ref mD, .ref mF, .ref mS, .ref mL, .ref mR, .ref mE, .ref mK, .ref mV, .int dr, .int dc, .int ds, .int ru, .int cl, .ref mO, .int os, .int fc, .ref mA, .ref mB, .ref mU, .ref mW, .int pi, .int wh, .long ms, .int aq, .int da, .ref mX, .ref mY, .long lu, .long ld, .long qu, .long qd])), (mT, .inl (cI, 800, .inl mt))] := hD
                    refine lv_aload_n hx hb d_Model_next_326 rfl (lv_at hl 2 rfl) ?_
                    refine lv_aload_n hx hb d_Model_next_327 rfl (lv_at hl 2 rfl) ?_
                    refine va_get (D := (dC, dI)) (ci := 8) (v := .int (mw + 1)) (C := "PermitRulesModel") (T := T_Model) (N := 40) hx hb htb in_Model hown hK hP 0 rfl rfl 7 (by decide) (htb _ mb_660) (fun _ h9 => h9) rfl d_Model_next_328 ?_
                    refine lv_bipush (v := 120) hx hb d_Model_next_331 (by decide) ?_
                    refine lv_icmp_le (tgt := 340) hx hb d_Model_next_333 (by decide) (fun c_26 => ?_) (fun c_26 => ?_)
                    · have hF := hF.trans (if_pos c_26)
                      refine lv_aload_n hx hb d_Model_next_340 rfl (lv_at hl 2 rfl) ?_
                      refine va_get (D := (dC, dI)) (ci := 8) (v := .int (z_3 + 256)) (C := "PermitRulesModel") (T := T_Model) (N := 40) hx hb htb in_Model hown hK hP 0 rfl rfl 4 (by decide) (htb _ mb_657) (fun _ h9 => h9) rfl d_Model_next_341 ?_
                      refine va_put (D := (dC, dI)) (ci := 8) (v := .int (z_3 + 256)) (ty := .int) (C := "PermitRulesModel") (T := T_Model) (N := 40) hx hb htb in_Model ty_Model to_Model nm_Model hown hK hP hD hS 0 rfl rfl 4 (by decide) (htb _ mb_657) (fun _ h9 => h9) rfl (by decide +kernel) rfl rfl (Nat.le_of_ble_eq_true rfl) d_Model_next_344 (fun H locs hP hD hS => ?_)
                      have hP : va_P (dC, dI) vwCl [(oM, .inr (8, [.int th, .ref mT, .int ml, .int ((xa + 1) + 1), .int (z_3 + 256), .int xa, .long 0, .int (mw + 1), .ref mN, .ref mD, .ref mF, .ref mS, .ref mL, .ref mR, .ref mE, .ref mK, .ref mV, .int dr, .int dc, .int ds, .int ru, .int cl, .ref mO, .int os, .int fc, .ref mA, .ref mB, .ref mU, .ref mW, .int pi, .int wh, .long ms, .int aq, .int da, .ref mX, .ref mY, .long lu, .long ld, .long qu, .long qd])), (mT, .inl (cI, 800, .inl mt))] H := hP
                      have hD : va_D A [(oM, .inr (8, [.int th, .ref mT, .int ml, .int ((xa + 1) + 1), .int (z_3 + 256), .int xa, .long 0, .int (mw + 1), .ref mN, .ref mD, .ref mF, .ref mS, .ref mL, .ref mR, .ref mE, .ref mK, .ref mV, .int dr, .int dc, .int ds, .int ru, .int cl, .ref mO, .int os, .int fc, .ref mA, .ref mB, .ref mU, .ref mW, .int pi, .int wh, .long ms, .int aq, .int da, .ref mX, .ref mY, .long lu, .long ld, .long qu, .long qd])), (mT, .inl (cI, 800, .inl mt))] := hD
                      have hP9 := hP.sub (ws' := [(oM, .inr (8, [.int th, .ref mT, .int ml, .int ((xa + 1) + 1), .int (z_3 + 256), .int xa, .long 0, .int (mw + 1), .ref mN, .ref mD, .ref mF, .ref mS, .ref mL, .ref mR, .ref mE, .ref mK, .ref mV, .int dr, .int dc, .int ds, .int ru, .int cl, .ref mO, .int os, .int fc, .ref mA, .ref mB, .ref mU, .ref mW, .int pi, .int wh, .long ms, .int aq, .int da, .ref mX, .ref mY, .long lu, .long ld, .long qu, .long qd])), (mT, .inl (cI, 800, .inl mt))]) [0, 1] rfl
                      have hD9 := hD.sub (ws' := [(oM, .inr (8, [.int th, .ref mT, .int ml, .int ((xa + 1) + 1), .int (z_3 + 256), .int xa, .long 0, .int (mw + 1), .ref mN, .ref mD, .ref mF, .ref mS, .ref mL, .ref mR, .ref mE, .ref mK, .ref mV, .int dr, .int dc, .int ds, .int ru, .int cl, .ref mO, .int os, .int fc, .ref mA, .ref mB, .ref mU, .ref mW, .int pi, .int wh, .long ms, .int aq, .int da, .ref mX, .ref mY, .long lu, .long ld, .long qu, .long qd])), (mT, .inl (cI, 800, .inl mt))]) [0, 1] (by decide) rfl
                      exact W.vret hx hb hr (fun t ht hW => ⟨⟨((xa + 1) + 1, z_3 + 256, xa, 0, mw + 1), rfl, by rw [hF], by rw [ht]; exact hP9, hD9⟩, hS.F ht⟩) hS.2.2 d_Model_next_347
                    · have hF := hF.trans (if_neg c_26)
                      refine lv_iconst (v := 3) hx hb d_Model_next_336 (by decide) ?_
                      refine lv_goto (tgt := 344) hx hb d_Model_next_337 (by decide) ?_
                      refine va_put (D := (dC, dI)) (ci := 8) (v := .int 3) (ty := .int) (C := "PermitRulesModel") (T := T_Model) (N := 40) hx hb htb in_Model ty_Model to_Model nm_Model hown hK hP hD hS 0 rfl rfl 4 (by decide) (htb _ mb_657) (fun _ h9 => h9) rfl (by decide +kernel) rfl rfl (Nat.le_of_ble_eq_true rfl) d_Model_next_344 (fun H locs hP hD hS => ?_)
                      have hP : va_P (dC, dI) vwCl [(oM, .inr (8, [.int th, .ref mT, .int ml, .int ((xa + 1) + 1), .int 3, .int xa, .long 0, .int (mw + 1), .ref mN, .ref mD, .ref mF, .ref mS, .ref mL, .ref mR, .ref mE, .ref mK, .ref mV, .int dr, .int dc, .int ds, .int ru, .int cl, .ref mO, .int os, .int fc, .ref mA, .ref mB, .ref mU, .ref mW, .int pi, .int wh, .long ms, .int aq, .int da, .ref mX, .ref mY, .long lu, .long ld, .long qu, .long qd])), (mT, .inl (cI, 800, .inl mt))] H := hP
                      have hD : va_D A [(oM, .inr (8, [.int th, .ref mT, .int ml, .int ((xa + 1) + 1), .int 3, .int xa, .long 0, .int (mw + 1), .ref mN, .ref mD, .ref mF, .ref mS, .ref mL, .ref mR, .ref mE, .ref mK, .ref mV, .int dr, .int dc, .int ds, .int ru, .int cl, .ref mO, .int os, .int fc, .ref mA, .ref mB, .ref mU, .ref mW, .int pi, .int wh, .long ms, .int aq, .int da, .ref mX, .ref mY, .long lu, .long ld, .long qu, .long qd])), (mT, .inl (cI, 800, .inl mt))] := hD
                      have hP9 := hP.sub (ws' := [(oM, .inr (8, [.int th, .ref mT, .int ml, .int ((xa + 1) + 1), .int 3, .int xa, .long 0, .int (mw + 1), .ref mN, .ref mD, .ref mF, .ref mS, .ref mL, .ref mR, .ref mE, .ref mK, .ref mV, .int dr, .int dc, .int ds, .int ru, .int cl, .ref mO, .int os, .int fc, .ref mA, .ref mB, .ref mU, .ref mW, .int pi, .int wh, .long ms, .int aq, .int da, .ref mX, .ref mY, .long lu, .long ld, .long qu, .long qd])), (mT, .inl (cI, 800, .inl mt))]) [0, 1] rfl
                      have hD9 := hD.sub (ws' := [(oM, .inr (8, [.int th, .ref mT, .int ml, .int ((xa + 1) + 1), .int 3, .int xa, .long 0, .int (mw + 1), .ref mN, .ref mD, .ref mF, .ref mS, .ref mL, .ref mR, .ref mE, .ref mK, .ref mV, .int dr, .int dc, .int ds, .int ru, .int cl, .ref mO, .int os, .int fc, .ref mA, .ref mB, .ref mU, .ref mW, .int pi, .int wh, .long ms, .int aq, .int da, .ref mX, .ref mY, .long lu, .long ld, .long qu, .long qd])), (mT, .inl (cI, 800, .inl mt))]) [0, 1] (by decide) rfl
                      exact W.vret hx hb hr (fun t ht hW => ⟨⟨((xa + 1) + 1, 3, xa, 0, mw + 1), rfl, by rw [hF], by rw [ht]; exact hP9, hD9⟩, hS.F ht⟩) hS.2.2 d_Model_next_347
                · have hF := hF.trans (if_neg c_22)
                  have tc_22 := ti_ne (Eq.refl z_3.toInt) (show (60 : Int32).toInt = 60 by decide) c_22
                  refine lv_iload_n hx hb d_Model_next_288 rfl (lv_at hl 1 rfl) ?_
                  refine lv_bipush (v := 62) hx hb d_Model_next_289 (by decide) ?_
                  refine lv_icmp_ne (tgt := 326) hx hb d_Model_next_291 (by decide) (fun c_27 => ?_) (fun c_27 => ?_)
                  · have hF := hF.trans (if_neg c_27)
                    have tc_27 := ti_ne (Eq.refl z_3.toInt) (show (62 : Int32).toInt = 62 by decide) c_27
                    refine lv_aload_n hx hb d_Model_next_326 rfl (lv_at hl 2 rfl) ?_
                    refine lv_aload_n hx hb d_Model_next_327 rfl (lv_at hl 2 rfl) ?_
                    refine va_get (D := (dC, dI)) (ci := 8) (v := .int (mw + 1)) (C := "PermitRulesModel") (T := T_Model) (N := 40) hx hb htb in_Model hown hK hP 0 rfl rfl 7 (by decide) (htb _ mb_660) (fun _ h9 => h9) rfl d_Model_next_328 ?_
                    refine lv_bipush (v := 120) hx hb d_Model_next_331 (by decide) ?_
                    refine lv_icmp_le (tgt := 340) hx hb d_Model_next_333 (by decide) (fun c_28 => ?_) (fun c_28 => ?_)
                    · have hF := hF.trans (if_pos c_28)
                      refine lv_aload_n hx hb d_Model_next_340 rfl (lv_at hl 2 rfl) ?_
                      refine va_get (D := (dC, dI)) (ci := 8) (v := .int z_3) (C := "PermitRulesModel") (T := T_Model) (N := 40) hx hb htb in_Model hown hK hP 0 rfl rfl 4 (by decide) (htb _ mb_657) (fun _ h9 => h9) rfl d_Model_next_341 ?_
                      refine va_put (D := (dC, dI)) (ci := 8) (v := .int z_3) (ty := .int) (C := "PermitRulesModel") (T := T_Model) (N := 40) hx hb htb in_Model ty_Model to_Model nm_Model hown hK hP hD hS 0 rfl rfl 4 (by decide) (htb _ mb_657) (fun _ h9 => h9) rfl (by decide +kernel) rfl rfl (Nat.le_of_ble_eq_true rfl) d_Model_next_344 (fun H locs hP hD hS => ?_)
                      have hP : va_P (dC, dI) vwCl [(oM, .inr (8, [.int th, .ref mT, .int ml, .int (xa + 1), .int z_3, .int xa, .long 0, .int (mw + 1), .ref mN, .ref mD, .ref mF, .ref mS, .ref mL, .ref mR, .ref mE, .ref mK, .ref mV, .int dr, .int dc, .int ds, .int ru, .int cl, .ref mO, .int os, .int fc, .ref mA, .ref mB, .ref mU, .ref mW, .int pi, .int wh, .long ms, .int aq, .int da, .ref mX, .ref mY, .long lu, .long ld, .long qu, .long qd])), (mT, .inl (cI, 800, .inl mt))] H := hP
                      have hD : va_D A [(oM, .inr (8, [.int th, .ref mT, .int ml, .int (xa + 1), .int z_3, .int xa, .long 0, .int (mw + 1), .ref mN, .ref mD, .ref mF, .ref mS, .ref mL, .ref mR, .ref mE, .ref mK, .ref mV, .int dr, .int dc, .int ds, .int ru, .int cl, .ref mO, .int os, .int fc, .ref mA, .ref mB, .ref mU, .ref mW, .int pi, .int wh, .long ms, .int aq, .int da, .ref mX, .ref mY, .long lu, .long ld, .long qu, .long qd])), (mT, .inl (cI, 800, .inl mt))] := hD
                      have hP9 := hP.sub (ws' := [(oM, .inr (8, [.int th, .ref mT, .int ml, .int (xa + 1), .int z_3, .int xa, .long 0, .int (mw + 1), .ref mN, .ref mD, .ref mF, .ref mS, .ref mL, .ref mR, .ref mE, .ref mK, .ref mV, .int dr, .int dc, .int ds, .int ru, .int cl, .ref mO, .int os, .int fc, .ref mA, .ref mB, .ref mU, .ref mW, .int pi, .int wh, .long ms, .int aq, .int da, .ref mX, .ref mY, .long lu, .long ld, .long qu, .long qd])), (mT, .inl (cI, 800, .inl mt))]) [0, 1] rfl
                      have hD9 := hD.sub (ws' := [(oM, .inr (8, [.int th, .ref mT, .int ml, .int (xa + 1), .int z_3, .int xa, .long 0, .int (mw + 1), .ref mN, .ref mD, .ref mF, .ref mS, .ref mL, .ref mR, .ref mE, .ref mK, .ref mV, .int dr, .int dc, .int ds, .int ru, .int cl, .ref mO, .int os, .int fc, .ref mA, .ref mB, .ref mU, .ref mW, .int pi, .int wh, .long ms, .int aq, .int da, .ref mX, .ref mY, .long lu, .long ld, .long qu, .long qd])), (mT, .inl (cI, 800, .inl mt))]) [0, 1] (by decide) rfl
                      exact W.vret hx hb hr (fun t ht hW => ⟨⟨(xa + 1, z_3, xa, 0, mw + 1), rfl, by rw [hF], by rw [ht]; exact hP9, hD9⟩, hS.F ht⟩) hS.2.2 d_Model_next_347
                    · have hF := hF.trans (if_neg c_28)
                      refine lv_iconst (v := 3) hx hb d_Model_next_336 (by decide) ?_
                      refine lv_goto (tgt := 344) hx hb d_Model_next_337 (by decide) ?_
                      refine va_put (D := (dC, dI)) (ci := 8) (v := .int 3) (ty := .int) (C := "PermitRulesModel") (T := T_Model) (N := 40) hx hb htb in_Model ty_Model to_Model nm_Model hown hK hP hD hS 0 rfl rfl 4 (by decide) (htb _ mb_657) (fun _ h9 => h9) rfl (by decide +kernel) rfl rfl (Nat.le_of_ble_eq_true rfl) d_Model_next_344 (fun H locs hP hD hS => ?_)
                      have hP : va_P (dC, dI) vwCl [(oM, .inr (8, [.int th, .ref mT, .int ml, .int (xa + 1), .int 3, .int xa, .long 0, .int (mw + 1), .ref mN, .ref mD, .ref mF, .ref mS, .ref mL, .ref mR, .ref mE, .ref mK, .ref mV, .int dr, .int dc, .int ds, .int ru, .int cl, .ref mO, .int os, .int fc, .ref mA, .ref mB, .ref mU, .ref mW, .int pi, .int wh, .long ms, .int aq, .int da, .ref mX, .ref mY, .long lu, .long ld, .long qu, .long qd])), (mT, .inl (cI, 800, .inl mt))] H := hP
                      have hD : va_D A [(oM, .inr (8, [.int th, .ref mT, .int ml, .int (xa + 1), .int 3, .int xa, .long 0, .int (mw + 1), .ref mN, .ref mD, .ref mF, .ref mS, .ref mL, .ref mR, .ref mE, .ref mK, .ref mV, .int dr, .int dc, .int ds, .int ru, .int cl, .ref mO, .int os, .int fc, .ref mA, .ref mB, .ref mU, .ref mW, .int pi, .int wh, .long ms, .int aq, .int da, .ref mX, .ref mY, .long lu, .long ld, .long qu, .long qd])), (mT, .inl (cI, 800, .inl mt))] := hD
                      have hP9 := hP.sub (ws' := [(oM, .inr (8, [.int th, .ref mT, .int ml, .int (xa + 1), .int 3, .int xa, .long 0, .int (mw + 1), .ref mN, .ref mD, .ref mF, .ref mS, .ref mL, .ref mR, .ref mE, .ref mK, .ref mV, .int dr, .int dc, .int ds, .int ru, .int cl, .ref mO, .int os, .int fc, .ref mA, .ref mB, .ref mU, .ref mW, .int pi, .int wh, .long ms, .int aq, .int da, .ref mX, .ref mY, .long lu, .long ld, .long qu, .long qd])), (mT, .inl (cI, 800, .inl mt))]) [0, 1] rfl
                      have hD9 := hD.sub (ws' := [(oM, .inr (8, [.int th, .ref mT, .int ml, .int (xa + 1), .int 3, .int xa, .long 0, .int (mw + 1), .ref mN, .ref mD, .ref mF, .ref mS, .ref mL, .ref mR, .ref mE, .ref mK, .ref mV, .int dr, .int dc, .int ds, .int ru, .int cl, .ref mO, .int os, .int fc, .ref mA, .ref mB, .ref mU, .ref mW, .int pi, .int wh, .long ms, .int aq, .int da, .ref mX, .ref mY, .long lu, .long ld, .long qu, .long qd])), (mT, .inl (cI, 800, .inl mt))]) [0, 1] (by decide) rfl
                      exact W.vret hx hb hr (fun t ht hW => ⟨⟨(xa + 1, 3, xa, 0, mw + 1), rfl, by rw [hF], by rw [ht]; exact hP9, hD9⟩, hS.F ht⟩) hS.2.2 d_Model_next_347
                  · have hF := hF.trans (if_pos c_27)
                    have tc_27 := ti_eq (Eq.refl z_3.toInt) (show (62 : Int32).toInt = 62 by decide) c_27
                    refine lv_aload_n hx hb d_Model_next_294 rfl (lv_at hl 2 rfl) ?_
                    refine lv_aload_n hx hb d_Model_next_295 rfl (lv_at hl 2 rfl) ?_
                    refine va_get (D := (dC, dI)) (ci := 8) (v := .int (xa + 1)) (C := "PermitRulesModel") (T := T_Model) (N := 40) hx hb htb in_Model hown hK hP 0 rfl rfl 3 (by decide) (htb _ mb_656) (fun _ h9 => h9) rfl d_Model_next_296 ?_
                    have hPc := hP.sub (ws' := [(oM, .inr (8, [.int th, .ref mT, .int ml, .int (xa + 1), .int z_3, .int xa, .long 0, .int (mw + 1), .ref mN, .ref mD, .ref mF, .ref mS, .ref mL, .ref mR, .ref mE, .ref mK, .ref mV, .int dr, .int dc, .int ds, .int ru, .int cl, .ref mO, .int os, .int fc, .ref mA, .ref mB, .ref mU, .ref mW, .int pi, .int wh, .long ms, .int aq, .int da, .ref mX, .ref mY, .long lu, .long ld, .long qu, .long qd])), (mT, .inl (cI, 800, .inl mt))]) [0, 1] rfl
                    have hDc := hD.sub (ws' := [(oM, .inr (8, [.int th, .ref mT, .int ml, .int (xa + 1), .int z_3, .int xa, .long 0, .int (mw + 1), .ref mN, .ref mD, .ref mF, .ref mS, .ref mL, .ref mR, .ref mE, .ref mK, .ref mV, .int dr, .int dc, .int ds, .int ru, .int cl, .ref mO, .int os, .int fc, .ref mA, .ref mB, .ref mU, .ref mW, .int pi, .int wh, .long ms, .int aq, .int da, .ref mX, .ref mY, .long lu, .long ld, .long qu, .long qd])), (mT, .inl (cI, 800, .inl mt))]) [0, 1] (by decide) rfl
                    have hFc := va_free (wc := [(oM, .inr (8, [.int th, .ref mT, .int ml, .int (xa + 1), .int z_3, .int xa, .long 0, .int (mw + 1), .ref mN, .ref mD, .ref mF, .ref mS, .ref mL, .ref mR, .ref mE, .ref mK, .ref mV, .int dr, .int dc, .int ds, .int ru, .int cl, .ref mO, .int os, .int fc, .ref mA, .ref mB, .ref mU, .ref mW, .int pi, .int wh, .long ms, .int aq, .int da, .ref mX, .ref mY, .long lu, .long ld, .long qu, .long qd])), (mT, .inl (cI, 800, .inl mt))]) hD hS hA [0, 1] rfl
                    refine va_calli (va_runV (As := [.int (xa + 1)]) (rest := []) ⟨hx, hb, hml, hown, htb⟩ (c_Model_character l dC dI cB cI cJ oM mT mN mD mF mS mL mR mE mK mV mO mA mB mU mW mX mY _ (xa + 1) th ml (xa + 1) z_3 xa 0 (mw + 1) dr dc ds ru cl os fc pi wh ms aq da lu ld qu qd mt (by have q0 := (oi_addE (Eq.refl xa.toInt) (show (1 : Int32).toInt = 1 by decide) (by omega) (by omega)); omega) (by omega)) ⟨callB_of 1 htb (gb_all mb_803) rfl rfl rfl (htb _ mb_9) (htb _ mb_800) (by decide +kernel) ⟨Nat.le_of_ble_eq_true rfl, Nat.le_of_ble_eq_true rfl⟩, htb _ mb_802, htb _ mp_18⟩ ⟨kb_blind, va_recv hK hPc (ci := 8) (q0 := 0) rfl rfl, kb_at hPc hDc hKx⟩ rfl rfl hl.1 rfl (lv_room (Nat.le_of_ble_eq_true rfl)) d_Model_next_299 ⟨Nat.le_of_ble_eq_true rfl, Nat.le_of_ble_eq_true rfl⟩) hS (fun q _ h => hFc q h) hFc (fun z_29 u t H1 locs ht hvm hw hB hz1 hk1 hS => ?_)
                    have hz_29 := hw
                    have hF := hF.trans (lt_e hz_29)
                    obtain ⟨hP1, hD1⟩ := hB
                    rw [ht] at hP1
                    obtain ⟨hP, hD⟩ := va_join (wr := []) (w1 := [(oM, .inr (8, [.int th, .ref mT, .int ml, .int (xa + 1), .int z_3, .int xa, .long 0, .int (mw + 1), .ref mN, .ref mD, .ref mF, .ref mS, .ref mL, .ref mR, .ref mE, .ref mK, .ref mV, .int dr, .int dc, .int ds, .int ru, .int cl, .ref mO, .int os, .int fc, .ref mA, .ref mB, .ref mU, .ref mW, .int pi, .int wh, .long ms, .int aq, .int da, .ref mX, .ref mY, .long lu, .long ld, .long qu, .long qd])), (mT, .inl (cI, 800, .inl mt))]) hP hD [0, 1] [] rfl rfl (by decide) (by decide) hk1 hFc hP1 hD1
                    generalize H1 = H at hP hS ⊢
                    have hP : va_P (dC, dI) vwCl [(oM, .inr (8, [.int th, .ref mT, .int ml, .int (xa + 1), .int z_3, .int xa, .long 0, .int (mw + 1), .ref mN, .ref mD, .ref mF, .ref mS, .ref mL, .ref mR, .ref mE, .ref mK, .ref mV, .int dr, .int dc, .int ds, .int ru, .int cl, .ref mO, .int os, .int fc, .ref mA, .ref mB, .ref mU, .ref mW, .int pi, .int wh, .long ms, .int aq, .int da, .ref mX, .ref mY, .long lu, .long ld, .long qu, .long qd])), (mT, .inl (cI, 800, .inl mt))] H := hP
                    have hD : va_D A [(oM, .inr (8, [.int th, .ref mT, .int ml, .int (xa + 1), .int z_3, .int xa, .long 0, .int (mw + 1), .ref mN, .ref mD, .ref mF, .ref mS, .ref mL, .ref mR, .ref mE, .ref mK, .ref mV, .int dr, .int dc, .int ds, .int ru, .int cl, .ref mO, .int os, .int fc, .ref mA, .ref mB, .ref mU, .ref mW, .int pi, .int wh, .long ms, .int aq, .int da, .ref mX, .ref mY, .long lu, .long ld, .long qu, .long qd])), (mT, .inl (cI, 800, .inl mt))] := hD
                    refine lv_bipush (v := 61) hx hb d_Model_next_302 (by decide) ?_
                    refine lv_icmp_ne (tgt := 326) hx hb d_Model_next_304 (by decide) (fun c_30 => ?_) (fun c_30 => ?_)
                    · have hF := hF.trans (if_neg c_30)
                      have tc_30 := ti_ne (Eq.refl z_29.toInt) (show (61 : Int32).toInt = 61 by decide) c_30
                      refine lv_aload_n hx hb d_Model_next_326 rfl (lv_at hl 2 rfl) ?_
                      refine lv_aload_n hx hb d_Model_next_327 rfl (lv_at hl 2 rfl) ?_
                      refine va_get (D := (dC, dI)) (ci := 8) (v := .int (mw + 1)) (C := "PermitRulesModel") (T := T_Model) (N := 40) hx hb htb in_Model hown hK hP 0 rfl rfl 7 (by decide) (htb _ mb_660) (fun _ h9 => h9) rfl d_Model_next_328 ?_
                      refine lv_bipush (v := 120) hx hb d_Model_next_331 (by decide) ?_
                      refine lv_icmp_le (tgt := 340) hx hb d_Model_next_333 (by decide) (fun c_31 => ?_) (fun c_31 => ?_)
                      · have hF := hF.trans (if_pos c_31)
                        refine lv_aload_n hx hb d_Model_next_340 rfl (lv_at hl 2 rfl) ?_
                        refine va_get (D := (dC, dI)) (ci := 8) (v := .int z_3) (C := "PermitRulesModel") (T := T_Model) (N := 40) hx hb htb in_Model hown hK hP 0 rfl rfl 4 (by decide) (htb _ mb_657) (fun _ h9 => h9) rfl d_Model_next_341 ?_
                        refine va_put (D := (dC, dI)) (ci := 8) (v := .int z_3) (ty := .int) (C := "PermitRulesModel") (T := T_Model) (N := 40) hx hb htb in_Model ty_Model to_Model nm_Model hown hK hP hD hS 0 rfl rfl 4 (by decide) (htb _ mb_657) (fun _ h9 => h9) rfl (by decide +kernel) rfl rfl (Nat.le_of_ble_eq_true rfl) d_Model_next_344 (fun H locs hP hD hS => ?_)
                        have hP : va_P (dC, dI) vwCl [(oM, .inr (8, [.int th, .ref mT, .int ml, .int (xa + 1), .int z_3, .int xa, .long 0, .int (mw + 1), .ref mN, .ref mD, .ref mF, .ref mS, .ref mL, .ref mR, .ref mE, .ref mK, .ref mV, .int dr, .int dc, .int ds, .int ru, .int cl, .ref mO, .int os, .int fc, .ref mA, .ref mB, .ref mU, .ref mW, .int pi, .int wh, .long ms, .int aq, .int da, .ref mX, .ref mY, .long lu, .long ld, .long qu, .long qd])), (mT, .inl (cI, 800, .inl mt))] H := hP
                        have hD : va_D A [(oM, .inr (8, [.int th, .ref mT, .int ml, .int (xa + 1), .int z_3, .int xa, .long 0, .int (mw + 1), .ref mN, .ref mD, .ref mF, .ref mS, .ref mL, .ref mR, .ref mE, .ref mK, .ref mV, .int dr, .int dc, .int ds, .int ru, .int cl, .ref mO, .int os, .int fc, .ref mA, .ref mB, .ref mU, .ref mW, .int pi, .int wh, .long ms, .int aq, .int da, .ref mX, .ref mY, .long lu, .long ld, .long qu, .long qd])), (mT, .inl (cI, 800, .inl mt))] := hD
                        have hP9 := hP.sub (ws' := [(oM, .inr (8, [.int th, .ref mT, .int ml, .int (xa + 1), .int z_3, .int xa, .long 0, .int (mw + 1), .ref mN, .ref mD, .ref mF, .ref mS, .ref mL, .ref mR, .ref mE, .ref mK, .ref mV, .int dr, .int dc, .int ds, .int ru, .int cl, .ref mO, .int os, .int fc, .ref mA, .ref mB, .ref mU, .ref mW, .int pi, .int wh, .long ms, .int aq, .int da, .ref mX, .ref mY, .long lu, .long ld, .long qu, .long qd])), (mT, .inl (cI, 800, .inl mt))]) [0, 1] rfl
                        have hD9 := hD.sub (ws' := [(oM, .inr (8, [.int th, .ref mT, .int ml, .int (xa + 1), .int z_3, .int xa, .long 0, .int (mw + 1), .ref mN, .ref mD, .ref mF, .ref mS, .ref mL, .ref mR, .ref mE, .ref mK, .ref mV, .int dr, .int dc, .int ds, .int ru, .int cl, .ref mO, .int os, .int fc, .ref mA, .ref mB, .ref mU, .ref mW, .int pi, .int wh, .long ms, .int aq, .int da, .ref mX, .ref mY, .long lu, .long ld, .long qu, .long qd])), (mT, .inl (cI, 800, .inl mt))]) [0, 1] (by decide) rfl
                        exact W.vret hx hb hr (fun t ht hW => ⟨⟨(xa + 1, z_3, xa, 0, mw + 1), rfl, by rw [hF], by rw [ht]; exact hP9, hD9⟩, hS.F ht⟩) hS.2.2 d_Model_next_347
                      · have hF := hF.trans (if_neg c_31)
                        refine lv_iconst (v := 3) hx hb d_Model_next_336 (by decide) ?_
                        refine lv_goto (tgt := 344) hx hb d_Model_next_337 (by decide) ?_
                        refine va_put (D := (dC, dI)) (ci := 8) (v := .int 3) (ty := .int) (C := "PermitRulesModel") (T := T_Model) (N := 40) hx hb htb in_Model ty_Model to_Model nm_Model hown hK hP hD hS 0 rfl rfl 4 (by decide) (htb _ mb_657) (fun _ h9 => h9) rfl (by decide +kernel) rfl rfl (Nat.le_of_ble_eq_true rfl) d_Model_next_344 (fun H locs hP hD hS => ?_)
                        have hP : va_P (dC, dI) vwCl [(oM, .inr (8, [.int th, .ref mT, .int ml, .int (xa + 1), .int 3, .int xa, .long 0, .int (mw + 1), .ref mN, .ref mD, .ref mF, .ref mS, .ref mL, .ref mR, .ref mE, .ref mK, .ref mV, .int dr, .int dc, .int ds, .int ru, .int cl, .ref mO, .int os, .int fc, .ref mA, .ref mB, .ref mU, .ref mW, .int pi, .int wh, .long ms, .int aq, .int da, .ref mX, .ref mY, .long lu, .long ld, .long qu, .long qd])), (mT, .inl (cI, 800, .inl mt))] H := hP
                        have hD : va_D A [(oM, .inr (8, [.int th, .ref mT, .int ml, .int (xa + 1), .int 3, .int xa, .long 0, .int (mw + 1), .ref mN, .ref mD, .ref mF, .ref mS, .ref mL, .ref mR, .ref mE, .ref mK, .ref mV, .int dr, .int dc, .int ds, .int ru, .int cl, .ref mO, .int os, .int fc, .ref mA, .ref mB, .ref mU, .ref mW, .int pi, .int wh, .long ms, .int aq, .int da, .ref mX, .ref mY, .long lu, .long ld, .long qu, .long qd])), (mT, .inl (cI, 800, .inl mt))] := hD
                        have hP9 := hP.sub (ws' := [(oM, .inr (8, [.int th, .ref mT, .int ml, .int (xa + 1), .int 3, .int xa, .long 0, .int (mw + 1), .ref mN, .ref mD, .ref mF, .ref mS, .ref mL, .ref mR, .ref mE, .ref mK, .ref mV, .int dr, .int dc, .int ds, .int ru, .int cl, .ref mO, .int os, .int fc, .ref mA, .ref mB, .ref mU, .ref mW, .int pi, .int wh, .long ms, .int aq, .int da, .ref mX, .ref mY, .long lu, .long ld, .long qu, .long qd])), (mT, .inl (cI, 800, .inl mt))]) [0, 1] rfl
                        have hD9 := hD.sub (ws' := [(oM, .inr (8, [.int th, .ref mT, .int ml, .int (xa + 1), .int 3, .int xa, .long 0, .int (mw + 1), .ref mN, .ref mD, .ref mF, .ref mS, .ref mL, .ref mR, .ref mE, .ref mK, .ref mV, .int dr, .int dc, .int ds, .int ru, .int cl, .ref mO, .int os, .int fc, .ref mA, .ref mB, .ref mU, .ref mW, .int pi, .int wh, .long ms, .int aq, .int da, .ref mX, .ref mY, .long lu, .long ld, .long qu, .long qd])), (mT, .inl (cI, 800, .inl mt))]) [0, 1] (by decide) rfl
                        exact W.vret hx hb hr (fun t ht hW => ⟨⟨(xa + 1, 3, xa, 0, mw + 1), rfl, by rw [hF], by rw [ht]; exact hP9, hD9⟩, hS.F ht⟩) hS.2.2 d_Model_next_347
                    · have hF := hF.trans (if_pos c_30)
                      have tc_30 := ti_eq (Eq.refl z_29.toInt) (show (61 : Int32).toInt = 61 by decide) c_30
                      refine lv_aload_n hx hb d_Model_next_307 rfl (lv_at hl 2 rfl) ?_
                      refine lv_iload_n hx hb d_Model_next_308 rfl (lv_at hl 1 rfl) ?_
                      refine lv_sipush (v := 256) hx hb d_Model_next_309 (by decide) ?_
                      refine lv_iadd hx hb d_Model_next_312 ?_
                      refine va_put (D := (dC, dI)) (ci := 8) (v := .int (z_3 + 256)) (ty := .int) (C := "PermitRulesModel") (T := T_Model) (N := 40) hx hb htb in_Model ty_Model to_Model nm_Model hown hK hP hD hS 0 rfl rfl 4 (by decide) (htb _ mb_657) (fun _ h9 => h9) rfl (by decide +kernel) rfl rfl (Nat.le_of_ble_eq_true rfl) d_Model_next_313 (fun H locs hP hD hS => ?_)
                      have hP : va_P (dC, dI) vwCl [(oM, .inr (8, [.int th, .ref mT, .int ml, .int (xa + 1), .int (z_3 + 256), .int xa, .long 0, .int (mw + 1), .ref mN, .ref mD, .ref mF, .ref mS, .ref mL, .ref mR, .ref mE, .ref mK, .ref mV, .int dr, .int dc, .int ds, .int ru, .int cl, .ref mO, .int os, .int fc, .ref mA, .ref mB, .ref mU, .ref mW, .int pi, .int wh, .long ms, .int aq, .int da, .ref mX, .ref mY, .long lu, .long ld, .long qu, .long qd])), (mT, .inl (cI, 800, .inl mt))] H := hP
                      have hD : va_D A [(oM, .inr (8, [.int th, .ref mT, .int ml, .int (xa + 1), .int (z_3 + 256), .int xa, .long 0, .int (mw + 1), .ref mN, .ref mD, .ref mF, .ref mS, .ref mL, .ref mR, .ref mE, .ref mK, .ref mV, .int dr, .int dc, .int ds, .int ru, .int cl, .ref mO, .int os, .int fc, .ref mA, .ref mB, .ref mU, .ref mW, .int pi, .int wh, .long ms, .int aq, .int da, .ref mX, .ref mY, .long lu, .long ld, .long qu, .long qd])), (mT, .inl (cI, 800, .inl mt))] := hD
                      refine lv_aload_n hx hb d_Model_next_316 rfl (lv_at hl 2 rfl) ?_
                      refine lv_dup hx hb d_Model_next_317 rfl ?_
                      refine va_get (D := (dC, dI)) (ci := 8) (v := .int (xa + 1)) (C := "PermitRulesModel") (T := T_Model) (N := 40) hx hb htb in_Model hown hK hP 0 rfl rfl 3 (by decide) (htb _ mb_656) (fun _ h9 => h9) rfl d_Model_next_318 ?_
                      refine lv_iconst (v := 1) hx hb d_Model_next_321 (by decide) ?_
                      refine lv_iadd hx hb d_Model_next_322 ?_
                      refine va_put (D := (dC, dI)) (ci := 8) (v := .int ((xa + 1) + 1)) (ty := .int) (C := "PermitRulesModel") (T := T_Model) (N := 40) hx hb htb in_Model ty_Model to_Model nm_Model hown hK hP hD hS 0 rfl rfl 3 (by decide) (htb _ mb_656) (fun _ h9 => h9) rfl (by decide +kernel) rfl rfl (Nat.le_of_ble_eq_true rfl) d_Model_next_323 (fun H locs hP hD hS => ?_)
                      have hP : va_P (dC, dI) vwCl [(oM, .inr (8, [.int th, .ref mT, .int ml, .int ((xa + 1) + 1), .int (z_3 + 256), .int xa, .long 0, .int (mw + 1), .ref mN, .ref mD, .ref mF, .ref mS, .ref mL, .ref mR, .ref mE, .ref mK, .ref mV, .int dr, .int dc, .int ds, .int ru, .int cl, .ref mO, .int os, .int fc, .ref mA, .ref mB, .ref mU, .ref mW, .int pi, .int wh, .long ms, .int aq, .int da, .ref mX, .ref mY, .long lu, .long ld, .long qu, .long qd])), (mT, .inl (cI, 800, .inl mt))] H := hP
                      have hD : va_D A [(oM, .inr (8, [.int th, .ref mT, .int ml, .int ((xa + 1) + 1), .int (z_3 + 256), .int xa, .long 0, .int (mw + 1), .ref mN, .ref mD, .ref mF, .ref mS, .ref mL, .ref mR, .ref mE, .ref mK, .ref mV, .int dr, .int dc, .int ds, .int ru, .int cl, .ref mO, .int os, .int fc, .ref mA, .ref mB, .ref mU, .ref mW, .int pi, .int wh, .long ms, .int aq, .int da, .ref mX, .ref mY, .long lu, .long ld, .long qu, .long qd])), (mT, .inl (cI, 800, .inl mt))] := hD
                      refine lv_aload_n hx hb d_Model_next_326 rfl (lv_at hl 2 rfl) ?_
                      refine lv_aload_n hx hb d_Model_next_327 rfl (lv_at hl 2 rfl) ?_
                      refine va_get (D := (dC, dI)) (ci := 8) (v := .int (mw + 1)) (C := "PermitRulesModel") (T := T_Model) (N := 40) hx hb htb in_Model hown hK hP 0 rfl rfl 7 (by decide) (htb _ mb_660) (fun _ h9 => h9) rfl d_Model_next_328 ?_
                      refine lv_bipush (v := 120) hx hb d_Model_next_331 (by decide) ?_
                      refine lv_icmp_le (tgt := 340) hx hb d_Model_next_333 (by decide) (fun c_32 => ?_) (fun c_32 => ?_)
                      · have hF := hF.trans (if_pos c_32)
                        refine lv_aload_n hx hb d_Model_next_340 rfl (lv_at hl 2 rfl) ?_
                        refine va_get (D := (dC, dI)) (ci := 8) (v := .int (z_3 + 256)) (C := "PermitRulesModel") (T := T_Model) (N := 40) hx hb htb in_Model hown hK hP 0 rfl rfl 4 (by decide) (htb _ mb_657) (fun _ h9 => h9) rfl d_Model_next_341 ?_
                        refine va_put (D := (dC, dI)) (ci := 8) (v := .int (z_3 + 256)) (ty := .int) (C := "PermitRulesModel") (T := T_Model) (N := 40) hx hb htb in_Model ty_Model to_Model nm_Model hown hK hP hD hS 0 rfl rfl 4 (by decide) (htb _ mb_657) (fun _ h9 => h9) rfl (by decide +kernel) rfl rfl (Nat.le_of_ble_eq_true rfl) d_Model_next_344 (fun H locs hP hD hS => ?_)
                        have hP : va_P (dC, dI) vwCl [(oM, .inr (8, [.int th, .ref mT, .int ml, .int ((xa + 1) + 1), .int (z_3 + 256), .int xa, .long 0, .int (mw + 1), .ref mN, .ref mD, .ref mF, .ref mS, .ref mL, .ref mR, .ref mE, .ref mK, .ref mV, .int dr, .int dc, .int ds, .int ru, .int cl, .ref mO, .int os, .int fc, .ref mA, .ref mB, .ref mU, .ref mW, .int pi, .int wh, .long ms, .int aq, .int da, .ref mX, .ref mY, .long lu, .long ld, .long qu, .long qd])), (mT, .inl (cI, 800, .inl mt))] H := hP
                        have hD : va_D A [(oM, .inr (8, [.int th, .ref mT, .int ml, .int ((xa + 1) + 1), .int (z_3 + 256), .int xa, .long 0, .int (mw + 1), .ref mN, .ref mD, .ref mF, .ref mS, .ref mL, .ref mR, .ref mE, .ref mK, .ref mV, .int dr, .int dc, .int ds, .int ru, .int cl, .ref mO, .int os, .int fc, .ref mA, .ref mB, .ref mU, .ref mW, .int pi, .int wh, .long ms, .int aq, .int da, .ref mX, .ref mY, .long lu, .long ld, .long qu, .long qd])), (mT, .inl (cI, 800, .inl mt))] := hD
                        have hP9 := hP.sub (ws' := [(oM, .inr (8, [.int th, .ref mT, .int ml, .int ((xa + 1) + 1), .int (z_3 + 256), .int xa, .long 0, .int (mw + 1), .ref mN, .ref mD, .ref mF, .ref mS, .ref mL, .ref mR, .ref mE, .ref mK, .ref mV, .int dr, .int dc, .int ds, .int ru, .int cl, .ref mO, .int os, .int fc, .ref mA, .ref mB, .ref mU, .ref mW, .int pi, .int wh, .long ms, .int aq, .int da, .ref mX, .ref mY, .long lu, .long ld, .long qu, .long qd])), (mT, .inl (cI, 800, .inl mt))]) [0, 1] rfl
                        have hD9 := hD.sub (ws' := [(oM, .inr (8, [.int th, .ref mT, .int ml, .int ((xa + 1) + 1), .int (z_3 + 256), .int xa, .long 0, .int (mw + 1), .ref mN, .ref mD, .ref mF, .ref mS, .ref mL, .ref mR, .ref mE, .ref mK, .ref mV, .int dr, .int dc, .int ds, .int ru, .int cl, .ref mO, .int os, .int fc, .ref mA, .ref mB, .ref mU, .ref mW, .int pi, .int wh, .long ms, .int aq, .int da, .ref mX, .ref mY, .long lu, .long ld, .long qu, .long qd])), (mT, .inl (cI, 800, .inl mt))]) [0, 1] (by decide) rfl
                        exact W.vret hx hb hr (fun t ht hW => ⟨⟨((xa + 1) + 1, z_3 + 256, xa, 0, mw + 1), rfl, by rw [hF], by rw [ht]; exact hP9, hD9⟩, hS.F ht⟩) hS.2.2 d_Model_next_347
                      · have hF := hF.trans (if_neg c_32)
                        refine lv_iconst (v := 3) hx hb d_Model_next_336 (by decide) ?_
                        refine lv_goto (tgt := 344) hx hb d_Model_next_337 (by decide) ?_
                        refine va_put (D := (dC, dI)) (ci := 8) (v := .int 3) (ty := .int) (C := "PermitRulesModel") (T := T_Model) (N := 40) hx hb htb in_Model ty_Model to_Model nm_Model hown hK hP hD hS 0 rfl rfl 4 (by decide) (htb _ mb_657) (fun _ h9 => h9) rfl (by decide +kernel) rfl rfl (Nat.le_of_ble_eq_true rfl) d_Model_next_344 (fun H locs hP hD hS => ?_)
                        have hP : va_P (dC, dI) vwCl [(oM, .inr (8, [.int th, .ref mT, .int ml, .int ((xa + 1) + 1), .int 3, .int xa, .long 0, .int (mw + 1), .ref mN, .ref mD, .ref mF, .ref mS, .ref mL, .ref mR, .ref mE, .ref mK, .ref mV, .int dr, .int dc, .int ds, .int ru, .int cl, .ref mO, .int os, .int fc, .ref mA, .ref mB, .ref mU, .ref mW, .int pi, .int wh, .long ms, .int aq, .int da, .ref mX, .ref mY, .long lu, .long ld, .long qu, .long qd])), (mT, .inl (cI, 800, .inl mt))] H := hP
                        have hD : va_D A [(oM, .inr (8, [.int th, .ref mT, .int ml, .int ((xa + 1) + 1), .int 3, .int xa, .long 0, .int (mw + 1), .ref mN, .ref mD, .ref mF, .ref mS, .ref mL, .ref mR, .ref mE, .ref mK, .ref mV, .int dr, .int dc, .int ds, .int ru, .int cl, .ref mO, .int os, .int fc, .ref mA, .ref mB, .ref mU, .ref mW, .int pi, .int wh, .long ms, .int aq, .int da, .ref mX, .ref mY, .long lu, .long ld, .long qu, .long qd])), (mT, .inl (cI, 800, .inl mt))] := hD
                        have hP9 := hP.sub (ws' := [(oM, .inr (8, [.int th, .ref mT, .int ml, .int ((xa + 1) + 1), .int 3, .int xa, .long 0, .int (mw + 1), .ref mN, .ref mD, .ref mF, .ref mS, .ref mL, .ref mR, .ref mE, .ref mK, .ref mV, .int dr, .int dc, .int ds, .int ru, .int cl, .ref mO, .int os, .int fc, .ref mA, .ref mB, .ref mU, .ref mW, .int pi, .int wh, .long ms, .int aq, .int da, .ref mX, .ref mY, .long lu, .long ld, .long qu, .long qd])), (mT, .inl (cI, 800, .inl mt))]) [0, 1] rfl
                        have hD9 := hD.sub (ws' := [(oM, .inr (8, [.int th, .ref mT, .int ml, .int ((xa + 1) + 1), .int 3, .int xa, .long 0, .int (mw + 1), .ref mN, .ref mD, .ref mF, .ref mS, .ref mL, .ref mR, .ref mE, .ref mK, .ref mV, .int dr, .int dc, .int ds, .int ru, .int cl, .ref mO, .int os, .int fc, .ref mA, .ref mB, .ref mU, .ref mW, .int pi, .int wh, .long ms, .int aq, .int da, .ref mX, .ref mY, .long lu, .long ld, .long qu, .long qd])), (mT, .inl (cI, 800, .inl mt))]) [0, 1] (by decide) rfl
                        exact W.vret hx hb hr (fun t ht hW => ⟨⟨((xa + 1) + 1, 3, xa, 0, mw + 1), rfl, by rw [hF], by rw [ht]; exact hP9, hD9⟩, hS.F ht⟩) hS.2.2 d_Model_next_347
            · have hF := hF.trans (if_neg c_8)
              have tc_8 := ti_ne (Eq.refl z_7.toInt) (show (0 : Int32).toInt = 0 by decide) c_8
              exact lp176 801 0 xa 0 xa (mw + 1) (by omega) (by omega) (by omega) hF _ _ _ (hP.sub [0, 1] rfl) (hD.sub [0, 1] (by decide) rfl) hS (lv_sub hl [0, 2] rfl)
          · have hF := hF.trans (if_neg c_6)
            have tc_6 := ti_ne (Eq.refl z_5.toInt) (show (0 : Int32).toInt = 0 by decide) c_6
            exact lp81 801 0 xa 0 xa (mw + 1) (by omega) (by omega) (by omega) hF _ _ _ (hP.sub [0, 1] rfl) (hD.sub [0, 1] (by decide) rfl) hS (lv_sub hl [0, 2] rfl)
        · have hF := hF.trans (if_neg c_4)
          have tc_4 := ti_nle (show (0 : Int32).toInt = 0 by decide) (Eq.refl z_3.toInt) c_4
          refine lv_aload_n hx hb d_Model_next_47 rfl (lv_at hl 1 rfl) ?_
          refine lv_iconst (v := 0) hx hb d_Model_next_48 (by decide) ?_
          refine va_put (D := (dC, dI)) (ci := 8) (v := .int 0) (ty := .int) (C := "PermitRulesModel") (T := T_Model) (N := 40) hx hb htb in_Model ty_Model to_Model nm_Model hown hK hP hD hS 0 rfl rfl 4 (by decide) (htb _ mb_657) (fun _ h9 => h9) rfl (by decide +kernel) rfl rfl (Nat.le_of_ble_eq_true rfl) d_Model_next_49 (fun H locs hP hD hS => ?_)
          have hP : va_P (dC, dI) vwCl [(oM, .inr (8, [.int th, .ref mT, .int ml, .int xa, .int 0, .int xa, .long mv, .int mw, .ref mN, .ref mD, .ref mF, .ref mS, .ref mL, .ref mR, .ref mE, .ref mK, .ref mV, .int dr, .int dc, .int ds, .int ru, .int cl, .ref mO, .int os, .int fc, .ref mA, .ref mB, .ref mU, .ref mW, .int pi, .int wh, .long ms, .int aq, .int da, .ref mX, .ref mY, .long lu, .long ld, .long qu, .long qd])), (mT, .inl (cI, 800, .inl mt))] H := hP
          have hD : va_D A [(oM, .inr (8, [.int th, .ref mT, .int ml, .int xa, .int 0, .int xa, .long mv, .int mw, .ref mN, .ref mD, .ref mF, .ref mS, .ref mL, .ref mR, .ref mE, .ref mK, .ref mV, .int dr, .int dc, .int ds, .int ru, .int cl, .ref mO, .int os, .int fc, .ref mA, .ref mB, .ref mU, .ref mW, .int pi, .int wh, .long ms, .int aq, .int da, .ref mX, .ref mY, .long lu, .long ld, .long qu, .long qd])), (mT, .inl (cI, 800, .inl mt))] := hD
          have hP9 := hP.sub (ws' := [(oM, .inr (8, [.int th, .ref mT, .int ml, .int xa, .int 0, .int xa, .long mv, .int mw, .ref mN, .ref mD, .ref mF, .ref mS, .ref mL, .ref mR, .ref mE, .ref mK, .ref mV, .int dr, .int dc, .int ds, .int ru, .int cl, .ref mO, .int os, .int fc, .ref mA, .ref mB, .ref mU, .ref mW, .int pi, .int wh, .long ms, .int aq, .int da, .ref mX, .ref mY, .long lu, .long ld, .long qu, .long qd])), (mT, .inl (cI, 800, .inl mt))]) [0, 1] rfl
          have hD9 := hD.sub (ws' := [(oM, .inr (8, [.int th, .ref mT, .int ml, .int xa, .int 0, .int xa, .long mv, .int mw, .ref mN, .ref mD, .ref mF, .ref mS, .ref mL, .ref mR, .ref mE, .ref mK, .ref mV, .int dr, .int dc, .int ds, .int ru, .int cl, .ref mO, .int os, .int fc, .ref mA, .ref mB, .ref mU, .ref mW, .int pi, .int wh, .long ms, .int aq, .int da, .ref mX, .ref mY, .long lu, .long ld, .long qu, .long qd])), (mT, .inl (cI, 800, .inl mt))]) [0, 1] (by decide) rfl
          exact W.vret hx hb hr (fun t ht hW => ⟨⟨(xa, 0, xa, mv, mw), rfl, by rw [hF], by rw [ht]; exact hP9, hD9⟩, hS.F ht⟩) hS.2.2 d_Model_next_52
      · have hF := hF.trans (if_pos c_2)
        have tc_2 := ti_eq (Eq.refl z_1.toInt) (show (32 : Int32).toInt = 32 by decide) c_2
        refine lv_aload_n hx hb d_Model_next_13 rfl (lv_at hl 0 rfl) ?_
        refine lv_dup hx hb d_Model_next_14 rfl ?_
        refine va_get (D := (dC, dI)) (ci := 8) (v := .int xa) (C := "PermitRulesModel") (T := T_Model) (N := 40) hx hb htb in_Model hown hK hP 0 rfl rfl 3 (by decide) (htb _ mb_656) (fun _ h9 => h9) rfl d_Model_next_15 ?_
        refine lv_iconst (v := 1) hx hb d_Model_next_18 (by decide) ?_
        refine lv_iadd hx hb d_Model_next_19 ?_
        refine va_put (D := (dC, dI)) (ci := 8) (v := .int (xa + 1)) (ty := .int) (C := "PermitRulesModel") (T := T_Model) (N := 40) hx hb htb in_Model ty_Model to_Model nm_Model hown hK hP hD hS 0 rfl rfl 3 (by decide) (htb _ mb_656) (fun _ h9 => h9) rfl (by decide +kernel) rfl rfl (Nat.le_of_ble_eq_true rfl) d_Model_next_20 (fun H locs hP hD hS => ?_)
        have hP : va_P (dC, dI) vwCl [(oM, .inr (8, [.int th, .ref mT, .int ml, .int (xa + 1), .int mk, .int mp, .long mv, .int mw, .ref mN, .ref mD, .ref mF, .ref mS, .ref mL, .ref mR, .ref mE, .ref mK, .ref mV, .int dr, .int dc, .int ds, .int ru, .int cl, .ref mO, .int os, .int fc, .ref mA, .ref mB, .ref mU, .ref mW, .int pi, .int wh, .long ms, .int aq, .int da, .ref mX, .ref mY, .long lu, .long ld, .long qu, .long qd])), (mT, .inl (cI, 800, .inl mt))] H := hP
        have hD : va_D A [(oM, .inr (8, [.int th, .ref mT, .int ml, .int (xa + 1), .int mk, .int mp, .long mv, .int mw, .ref mN, .ref mD, .ref mF, .ref mS, .ref mL, .ref mR, .ref mE, .ref mK, .ref mV, .int dr, .int dc, .int ds, .int ru, .int cl, .ref mO, .int os, .int fc, .ref mA, .ref mB, .ref mU, .ref mW, .int pi, .int wh, .long ms, .int aq, .int da, .ref mX, .ref mY, .long lu, .long ld, .long qu, .long qd])), (mT, .inl (cI, 800, .inl mt))] := hD
        refine lv_goto (tgt := 0) hx hb d_Model_next_23 (by decide) ?_
        have e0 := mc_lt hz_1 c_2
        exact ih (xa + 1) (by have q0 := (oi_addE (Eq.refl xa.toInt) (show (1 : Int32).toInt = 1 by decide) (by omega) (by omega)); omega) (by have q0 := (oi_addE (Eq.refl xa.toInt) (show (1 : Int32).toInt = 1 by decide) (by omega) (by omega)); omega) (by have q0 := (oi_addE (Eq.refl xa.toInt) (show (1 : Int32).toInt = 1 by decide) (by omega) (by omega)); omega) hF _ _ _ (hP.sub [0, 1] rfl) (hD.sub [0, 1] (by decide) rfl) hS (lv_sub hl [0] rfl)
  exact lp0 801 ma (by omega) (by omega) (by omega) hF _ _ _ (hP.sub [0, 1] rfl) (hD.sub [0, 1] (by decide) rfl) hS (lv_sub hl [0] rfl)
