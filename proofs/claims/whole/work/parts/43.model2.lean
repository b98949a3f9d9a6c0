def f_Model_trim (n_ : Int32) (ml : Int32) : Int32 × Int32 × Int32 := (lt_ (f_Model_in n_.toInt64 0 ml.toInt64) fun z_1 => (if z_1 = 0 then (0, 1, ml) else (ml - n_, 0, ml - n_)))
abbrev q_Model_trim (dC : Nat → ClassId) (dI : Nat → Nat → Nat) (cB cI cJ : ClassId) (oM mT mN mD mF mS mL mR mE mK mV mO mA mB mU mW mX mY : Nat) (n_ : Int32) (th : Int32) (ml : Int32) (ma : Int32) (mk : Int32) (mp : Int32) (mv : Int64) (mw : Int32) (dr : Int32) (dc : Int32) (ds : Int32) (ru : Int32) (cl : Int32) (os : Int32) (fc : Int32) (pi : Int32) (wh : Int32) (ms : Int64) (aq : Int32) (da : Int32) (lu : Int64) (ld : Int64) (qu : Int64) (qd : Int64) (A : Nat → Prop) : Array Value → State → Outcome → State → Prop := va_Qi (fun (r : Int32) (u : Int32 × Int32) => r = (f_Model_trim n_ ml).1 ∧ u = (f_Model_trim n_ ml).2) (fun u t => va_P (dC, dI) vwCl [(oM, .inr (8, [.int u.1, .ref mT, .int u.2, .int ma, .int mk, .int mp, .long mv, .int mw, .ref mN, .ref mD, .ref mF, .ref mS, .ref mL, .ref mR, .ref mE, .ref mK, .ref mV, .int dr, .int dc, .int ds, .int ru, .int cl, .ref mO, .int os, .int fc, .ref mA, .ref mB, .ref mU, .ref mW, .int pi, .int wh, .long ms, .int aq, .int da, .ref mX, .ref mY, .long lu, .long ld, .long qu, .long qd]))] t.heap ∧ va_D A [(oM, .inr (8, [.int u.1, .ref mT, .int u.2, .int ma, .int mk, .int mp, .long mv, .int mw, .ref mN, .ref mD, .ref mF, .ref mS, .ref mL, .ref mR, .ref mE, .ref mK, .ref mV, .int dr, .int dc, .int ds, .int ru, .int cl, .ref mO, .int os, .int fc, .ref mA, .ref mB, .ref mU, .ref mW, .int pi, .int wh, .long ms, .int aq, .int da, .ref mX, .ref mY, .long lu, .long ld, .long qu, .long qd]))]) A
set_option maxHeartbeats 4000000 in
set_option maxRecDepth 100000 in
theorem c_Model_trim (l : Launch) (dC : Nat → ClassId) (dI : Nat → Nat → Nat) (cB cI cJ : ClassId) (oM mT mN mD mF mS mL mR mE mK mV mO mA mB mU mW mX mY : Nat) (sz : Nat) (n_ : Int32) (th : Int32) (ml : Int32) (ma : Int32) (mk : Int32) (mp : Int32) (mv : Int64) (mw : Int32) (dr : Int32) (dc : Int32) (ds : Int32) (ru : Int32) (cl : Int32) (os : Int32) (fc : Int32) (pi : Int32) (wh : Int32) (ms : Int64) (aq : Int32) (da : Int32) (lu : Int64) (ld : Int64) (qu : Int64) (qd : Int64) : Met l y_Model_trim (cw_Model_trim :: bgw) { frames := 1, cells := 0, slots := 0, locals := 25 } (va_Pc [.ref oM, .int n_] (kb_B dC dI cB cI cJ [(oM, .inr (8, [.int th, .ref mT, .int ml, .int ma, .int mk, .int mp, .long mv, .int mw, .ref mN, .ref mD, .ref mF, .ref mS, .ref mL, .ref mR, .ref mE, .ref mK, .ref mV, .int dr, .int dc, .int ds, .int ru, .int cl, .ref mO, .int os, .int fc, .ref mA, .ref mB, .ref mU, .ref mW, .int pi, .int wh, .long ms, .int aq, .int da, .ref mX, .ref mY, .long lu, .long ld, .long qu, .long qd]))] sz)) (q_Model_trim dC dI cB cI cJ oM mT mN mD mF mS mL mR mE mK mV mO mA mB mU mW mX mY n_ th ml ma mk mp mv mw dr dc ds ru cl os fc pi wh ms aq da lu ld qu qd (va_A [(oM, .inr (8, [.int th, .ref mT, .int ml, .int ma, .int mk, .int mp, .long mv, .int mw, .ref mN, .ref mD, .ref mF, .ref mS, .ref mL, .ref mR, .ref mE, .ref mK, .ref mV, .int dr, .int dc, .int ds, .int ru, .int cl, .ref mO, .int os, .int fc, .ref mA, .ref mB, .ref mU, .ref mW, .int pi, .int wh, .long ms, .int aq, .int da, .ref mX, .ref mY, .long lu, .long ld, .long qu, .long qd]))] sz)) 0 0 (va_A [(oM, .inr (8, [.int th, .ref mT, .int ml, .int ma, .int mk, .int mp, .long mv, .int mw, .ref mN, .ref mD, .ref mF, .ref mS, .ref mL, .ref mR, .ref mE, .ref mK, .ref mV, .int dr, .int dc, .int ds, .int ru, .int cl, .ref mO, .int os, .int fc, .ref mA, .ref mB, .ref mU, .ref mW, .int pi, .int wh, .long ms, .int aq, .int da, .ref mX, .ref mY, .long lu, .long ld, .long qu, .long qd]))] sz) := by
  refine Met.ofW (cc := prog_10_method_5_code) (maxL := 2) (ret := (some .int)) (by decide) rfl ?_
  intro p e s m args below meth c s₁ B hml hv
  obtain ⟨rfl, hsz, hP, hKx, hD0⟩ := hv
  have hx := B.exec
  have hb := B.bytes
  have hr := B.returns
  have hts := atoms_spec (ws := (cw_Model_trim :: bgw)) B.pre
  have hown : s.vm.findClass "PermitRulesModel" = some m.cls := findClass_of_methodNamed B.named
  have hlocks := B.notSynchronized
  have htb := fun (w : Cond) (h : w ∈ bgw) => hts w (List.mem_cons_of_mem _ h)
  have hK := hKx.1
  subst hsz
  have hD := hD0.self (sz := s.heap.size)
  generalize hAe : va_A [(oM, .inr (8, [.int th, .ref mT, .int ml, .int ma, .int mk, .int mp, .long mv, .int mw, .ref mN, .ref mD, .ref mF, .ref mS, .ref mL, .ref mR, .ref mE, .ref mK, .ref mV, .int dr, .int dc, .int ds, .int ru, .int cl, .ref mO, .int os, .int fc, .ref mA, .ref mB, .ref mU, .ref mW, .int pi, .int wh, .long ms, .int aq, .int da, .ref mX, .ref mY, .long lu, .long ld, .long qu, .long qd]))] s.heap.size = A at hD ⊢
  have hA : ∀ q : Nat, s.heap.size ≤ q → A q := fun q h => by rw [← hAe]; exact Or.inr h
  have hS : va_S A s.heap s.heap [] := va_S.rf
  have hl := lv_entry ([.ref oM, .int n_]) (n := 2) (Nat.le_of_ble_eq_true rfl)
  rw [lg_entry_eq]
  generalize (lg_sl ([.ref oM, .int n_]) ++ List.replicate (2 - (lg_sl ([.ref oM, .int n_])).length) Slot.unset).toArray = ls at hl ⊢
  have hl : lv_has ls 2 [(0, .ref oM), (1, .int n_)] := hl
  have hP : va_P (dC, dI) vwCl [(oM, .inr (8, [.int th, .ref mT, .int ml, .int ma, .int mk, .int mp, .long mv, .int mw, .ref mN, .ref mD, .ref mF, .ref mS, .ref mL, .ref mR, .ref mE, .ref mK, .ref mV, .int dr, .int dc, .int ds, .int ru, .int cl, .ref mO, .int os, .int fc, .ref mA, .ref mB, .ref mU, .ref mW, .int pi, .int wh, .long ms, .int aq, .int da, .ref mX, .ref mY, .long lu, .long ld, .long qu, .long qd]))] s.heap := hP
  have hF : f_Model_trim n_ ml = (lt_ (f_Model_in n_.toInt64 0 ml.toInt64) fun z_1 => (if z_1 = 0 then (0, 1, ml) else (ml - n_, 0, ml - n_))) := rfl
  refine lv_aload_n hx hb d_Model_trim_0 rfl (lv_at hl 0 rfl) ?_
  refine lv_iload_n hx hb d_Model_trim_1 rfl (lv_at hl 1 rfl) ?_
  refine lv_i2l (v := n_.toInt64) hx hb d_Model_trim_2 rfl ?_
  refine lv_lconst (v := 0) hx hb d_Model_trim_3 (by decide) ?_
  refine lv_aload_n hx hb d_Model_trim_4 rfl (lv_at hl 0 rfl) ?_
  refine va_get (D := (dC, dI)) (ci := 8) (v := .int ml) (C := "PermitRulesModel") (T := T_Model) (N := 40) hx hb htb in_Model hown hK hP 0 rfl rfl 2 (by decide) (htb _ mb_655) (fun _ h9 => h9) rfl d_Model_trim_5 ?_
  refine lv_i2l (v := ml.toInt64) hx hb d_Model_trim_8 rfl ?_
  have hPc := hP.sub (ws' := []) [] rfl
  have hDc := hD.sub (ws' := []) [] (by decide) rfl
  have hFc := va_free (wc := []) hD hS hA [] rfl
  refine va_calli (va_runS (As := [.long n_.toInt64, .long 0, .long ml.toInt64]) (rest := [.ref oM]) ⟨hx, hb, hml, hown, htb⟩ (c_Model_in l dC dI cB cI cJ  _ n_.toInt64 0 ml.toInt64 ) ⟨callB_of 3 htb (gb_all mb_787) rfl rfl rfl (htb _ mb_9) (htb _ mb_785) (by decide +kernel) ⟨Nat.le_of_ble_eq_true rfl, Nat.le_of_ble_eq_true rfl⟩, htb _ mb_786⟩ ⟨kb_blind, kb_at hPc hDc hKx⟩ rfl rfl hl.1 rfl (lv_room (Nat.le_of_ble_eq_true rfl)) d_Model_trim_9 ⟨Nat.le_of_ble_eq_true rfl, Nat.le_of_ble_eq_true rfl⟩) hS (fun q _ h => hFc q h) hFc (fun z_1 u t H1 locs ht hvm hw hB hz1 hk1 hS => ?_)
  have hz_1 := hw
  have hF := hF.trans (lt_e hz_1)
  obtain ⟨hP1, hD1⟩ := hB
  rw [ht] at hP1
  obtain ⟨hP, hD⟩ := va_join (wr := [(oM, .inr (8, [.int th, .ref mT, .int ml, .int ma, .int mk, .int mp, .long mv, .int mw, .ref mN, .ref mD, .ref mF, .ref mS, .ref mL, .ref mR, .ref mE, .ref mK, .ref mV, .int dr, .int dc, .int ds, .int ru, .int cl, .ref mO, .int os, .int fc, .ref mA, .ref mB, .ref mU, .ref mW, .int pi, .int wh, .long ms, .int aq, .int da, .ref mX, .ref mY, .long lu, .long ld, .long qu, .long qd]))]) (w1 := []) hP hD [] [0] rfl rfl (by decide) (by decide) hk1 hFc hP1 hD1
  generalize H1 = H at hP hS ⊢
  have hP : va_P (dC, dI) vwCl [(oM, .inr (8, [.int th, .ref mT, .int ml, .int ma, .int mk, .int mp, .long mv, .int mw, .ref mN, .ref mD, .ref mF, .ref mS, .ref mL, .ref mR, .ref mE, .ref mK, .ref mV, .int dr, .int dc, .int ds, .int ru, .int cl, .ref mO, .int os, .int fc, .ref mA, .ref mB, .ref mU, .ref mW, .int pi, .int wh, .long ms, .int aq, .int da, .ref mX, .ref mY, .long lu, .long ld, .long qu, .long qd]))] H := hP
  have hD : va_D A [(oM, .inr (8, [.int th, .ref mT, .int ml, .int ma, .int mk, .int mp, .long mv, .int mw, .ref mN, .ref mD, .ref mF, .ref mS, .ref mL, .ref mR, .ref mE, .ref mK, .ref mV, .int dr, .int dc, .int ds, .int ru, .int cl, .ref mO, .int os, .int fc, .ref mA, .ref mB, .ref mU, .ref mW, .int pi, .int wh, .long ms, .int aq, .int da, .ref mX, .ref mY, .long lu, .long ld, .long qu, .long qd]))] := hD
  refine lv_if_eq (tgt := 19) hx hb d_Model_trim_12 (by decide) (fun c_2 => ?_) (fun c_2 => ?_)
  · have hF := hF.trans (if_pos c_2)
    have tc_2 := ti_eq (Eq.refl z_1.toInt) (show (0 : Int32).toInt = 0 by decide) c_2
    refine lv_iconst (v := 1) hx hb d_Model_trim_19 (by decide) ?_
    refine va_put (D := (dC, dI)) (ci := 8) (v := .int 1) (ty := .int) (C := "PermitRulesModel") (T := T_Model) (N := 40) hx hb htb in_Model ty_Model to_Model nm_Model hown hK hP hD hS 0 rfl rfl 0 (by decide) (htb _ mb_653) (fun _ h9 => h9) rfl (by decide +kernel) rfl rfl (Nat.le_of_ble_eq_true rfl) d_Model_trim_20 (fun H locs hP hD hS => ?_)
    have hP : va_P (dC, dI) vwCl [(oM, .inr (8, [.int 1, .ref mT, .int ml, .int ma, .int mk, .int mp, .long mv, .int mw, .ref mN, .ref mD, .ref mF, .ref mS, .ref mL, .ref mR, .ref mE, .ref mK, .ref mV, .int dr, .int dc, .int ds, .int ru, .int cl, .ref mO, .int os, .int fc, .ref mA, .ref mB, .ref mU, .ref mW, .int pi, .int wh, .long ms, .int aq, .int da, .ref mX, .ref mY, .long lu, .long ld, .long qu, .long qd]))] H := hP
    have hD : va_D A [(oM, .inr (8, [.int 1, .ref mT, .int ml, .int ma, .int mk, .int mp, .long mv, .int mw, .ref mN, .ref mD, .ref mF, .ref mS, .ref mL, .ref mR, .ref mE, .ref mK, .ref mV, .int dr, .int dc, .int ds, .int ru, .int cl, .ref mO, .int os, .int fc, .ref mA, .ref mB, .ref mU, .ref mW, .int pi, .int wh, .long ms, .int aq, .int da, .ref mX, .ref mY, .long lu, .long ld, .long qu, .long qd]))] := hD
    refine lv_aload_n hx hb d_Model_trim_23 rfl (lv_at hl 0 rfl) ?_
    refine va_get (D := (dC, dI)) (ci := 8) (v := .int 1) (C := "PermitRulesModel") (T := T_Model) (N := 40) hx hb htb in_Model hown hK hP 0 rfl rfl 0 (by decide) (htb _ mb_653) (fun _ h9 => h9) rfl d_Model_trim_24 ?_
    refine lv_if_le (tgt := 32) hx hb d_Model_trim_27 (by decide) (fun c_3 => ?_) (fun c_3 => ?_)
    · exact absurd c_3 (by decide)
    · skip
      refine lv_iconst (v := 0) hx hb d_Model_trim_30 (by decide) ?_
      have hP9 := hP.sub (ws' := [(oM, .inr (8, [.int 1, .ref mT, .int ml, .int ma, .int mk, .int mp, .long mv, .int mw, .ref mN, .ref mD, .ref mF, .ref mS, .ref mL, .ref mR, .ref mE, .ref mK, .ref mV, .int dr, .int dc, .int ds, .int ru, .int cl, .ref mO, .int os, .int fc, .ref mA, .ref mB, .ref mU, .ref mW, .int pi, .int wh, .long ms, .int aq, .int da, .ref mX, .ref mY, .long lu, .long ld, .long qu, .long qd]))]) [0] rfl
      have hD9 := hD.sub (ws' := [(oM, .inr (8, [.int 1, .ref mT, .int ml, .int ma, .int mk, .int mp, .long mv, .int mw, .ref mN, .ref mD, .ref mF, .ref mS, .ref mL, .ref mR, .ref mE, .ref mK, .ref mV, .int dr, .int dc, .int ds, .int ru, .int cl, .ref mO, .int os, .int fc, .ref mA, .ref mB, .ref mU, .ref mW, .int pi, .int wh, .long ms, .int aq, .int da, .ref mX, .ref mY, .long lu, .long ld, .long qu, .long qd]))]) [0] (by decide) rfl
      exact W.iret (v := (0 : Int32)) hx hb hr (fun t ht hW => ⟨⟨(0 : Int32), (1, ml), rfl, ⟨by rw [hF], by rw [hF]⟩, by rw [ht]; exact hP9, hD9⟩, hS.F ht⟩) hS.2.2 d_Model_trim_31
  · have hF := hF.trans (if_neg c_2)
    have tc_2 := ti_ne (Eq.refl z_1.toInt) (show (0 : Int32).toInt = 0 by decide) c_2
    refine lv_iconst (v := 0) hx hb d_Model_trim_15 (by decide) ?_
    refine lv_goto (tgt := 20) hx hb d_Model_trim_16 (by decide) ?_
    refine va_put (D := (dC, dI)) (ci := 8) (v := .int 0) (ty := .int) (C := "PermitRulesModel") (T := T_Model) (N := 40) hx hb htb in_Model ty_Model to_Model nm_Model hown hK hP hD hS 0 rfl rfl 0 (by decide) (htb _ mb_653) (fun _ h9 => h9) rfl (by decide +kernel) rfl rfl (Nat.le_of_ble_eq_true rfl) d_Model_trim_20 (fun H locs hP hD hS => ?_)
    have hP : va_P (dC, dI) vwCl [(oM, .inr (8, [.int 0, .ref mT, .int ml, .int ma, .int mk, .int mp, .long mv, .int mw, .ref mN, .ref mD, .ref mF, .ref mS, .ref mL, .ref mR, .ref mE, .ref mK, .ref mV, .int dr, .int dc, .int ds, .int ru, .int cl, .ref mO, .int os, .int fc, .ref mA, .ref mB, .ref mU, .ref mW, .int pi, .int wh, .long ms, .int aq, .int da, .ref mX, .ref mY, .long lu, .long ld, .long qu, .long qd]))] H := hP
    have hD : va_D A [(oM, .inr (8, [.int 0, .ref mT, .int ml, .int ma, .int mk, .int mp, .long mv, .int mw, .ref mN, .ref mD, .ref mF, .ref mS, .ref mL, .ref mR, .ref mE, .ref mK, .ref mV, .int dr, .int dc, .int ds, .int ru, .int cl, .ref mO, .int os, .int fc, .ref mA, .ref mB, .ref mU, .ref mW, .int pi, .int wh, .long ms, .int aq, .int da, .ref mX, .ref mY, .long lu, .long ld, .long qu, .long qd]))] := hD
    refine lv_aload_n hx hb d_Model_trim_23 rfl (lv_at hl 0 rfl) ?_
    refine va_get (D := (dC, dI)) (ci := 8) (v := .int 0) (C := "PermitRulesModel") (T := T_Model) (N := 40) hx hb htb in_Model hown hK hP 0 rfl rfl 0 (by decide) (htb _ mb_653) (fun _ h9 => h9) rfl d_Model_trim_24 ?_
    refine lv_if_le (tgt := 32) hx hb d_Model_trim_27 (by decide) (fun c_4 => ?_) (fun c_4 => ?_)
    · skip
      refine lv_aload_n hx hb d_Model_trim_32 rfl (lv_at hl 0 rfl) ?_
      refine lv_aload_n hx hb d_Model_trim_33 rfl (lv_at hl 0 rfl) ?_
      refine va_get (D := (dC, dI)) (ci := 8) (v := .int ml) (C := "PermitRulesModel") (T := T_Model) (N := 40) hx hb htb in_Model hown hK hP 0 rfl rfl 2 (by decide) (htb _ mb_655) (fun _ h9 => h9) rfl d_Model_trim_34 ?_
      refine lv_iload_n hx hb d_Model_trim_37 rfl (lv_at hl 1 rfl) ?_
      refine lv_isub hx hb d_Model_trim_38 ?_
      refine va_put (D := (dC, dI)) (ci := 8) (v := .int (ml - n_)) (ty := .int) (C := "PermitRulesModel") (T := T_Model) (N := 40) hx hb htb in_Model ty_Model to_Model nm_Model hown hK hP hD hS 0 rfl rfl 2 (by decide) (htb _ mb_655) (fun _ h9 => h9) rfl (by decide +kernel) rfl rfl (Nat.le_of_ble_eq_true rfl) d_Model_trim_39 (fun H locs hP hD hS => ?_)
      have hP : va_P (dC, dI) vwCl [(oM, .inr (8, [.int 0, .ref mT, .int (ml - n_), .int ma, .int mk, .int mp, .long mv, .int mw, .ref mN, .ref mD, .ref mF, .ref mS, .ref mL, .ref mR, .ref mE, .ref mK, .ref mV, .int dr, .int dc, .int ds, .int ru, .int cl, .ref mO, .int os, .int fc, .ref mA, .ref mB, .ref mU, .ref mW, .int pi, .int wh, .long ms, .int aq, .int da, .ref mX, .ref mY, .long lu, .long ld, .long qu, .long qd]))] H := hP
      have hD : va_D A [(oM, .inr (8, [.int 0, .ref mT, .int (ml - n_), .int ma, .int mk, .int mp, .long mv, .int mw, .ref mN, .ref mD, .ref mF, .ref mS, .ref mL, .ref mR, .ref mE, .ref mK, .ref mV, .int dr, .int dc, .int ds, .int ru, .int cl, .ref mO, .int os, .int fc, .ref mA, .ref mB, .ref mU, .ref mW, .int pi, .int wh, .long ms, .int aq, .int da, .ref mX, .ref mY, .long lu, .long ld, .long qu, .long qd]))] := hD
      refine lv_aload_n hx hb d_Model_trim_42 rfl (lv_at hl 0 rfl) ?_
      refine va_get (D := (dC, dI)) (ci := 8) (v := .int (ml - n_)) (C := "PermitRulesModel") (T := T_Model) (N := 40) hx hb htb in_Model hown hK hP 0 rfl rfl 2 (by decide) (htb _ mb_655) (fun _ h9 => h9) rfl d_Model_trim_43 ?_
      have hP9 := hP.sub (ws' := [(oM, .inr (8, [.int 0, .ref mT, .int (ml - n_), .int ma, .int mk, .int mp, .long mv, .int mw, .ref mN, .ref mD, .ref mF, .ref mS, .ref mL, .ref mR, .ref mE, .ref mK, .ref mV, .int dr, .int dc, .int ds, .int ru, .int cl, .ref mO, .int os, .int fc, .ref mA, .ref mB, .ref mU, .ref mW, .int pi, .int wh, .long ms, .int aq, .int da, .ref mX, .ref mY, .long lu, .long ld, .long qu, .long qd]))]) [0] rfl
      have hD9 := hD.sub (ws' := [(oM, .inr (8, [.int 0, .ref mT, .int (ml - n_), .int ma, .int mk, .int mp, .long mv, .int mw, .ref mN, .ref mD, .ref mF, .ref mS, .ref mL, .ref mR, .ref mE, .ref mK, .ref mV, .int dr, .int dc, .int ds, .int ru, .int cl, .ref mO, .int os, .int fc, .ref mA, .ref mB, .ref mU, .ref mW, .int pi, .int wh, .long ms, .int aq, .int da, .ref mX, .ref mY, .long lu, .long ld, .long qu, .long qd]))]) [0] (by decide) rfl
      exact W.iret (v := ml - n_) hx hb hr (fun t ht hW => ⟨⟨ml - n_, (0, ml - n_), rfl, ⟨by rw [hF], by rw [hF]⟩, by rw [ht]; exact hP9, hD9⟩, hS.F ht⟩) hS.2.2 d_Model_trim_46
    · exact absurd (by decide) c_4
def f_Model_isName_L5 (nm : Int64) : Nat → Int64 → Int32 → Int32
  | 0, _, _ => 0
  | n + 1, le, n_ => (if (lg_cmp le 0) = 0 then (if n_ ≤ 0 then 0 else (if (lg_cmp le 0) = 0 then 1 else 0)) else (if 8 ≤ n_ then (if n_ ≤ 0 then 0 else (if (lg_cmp le 0) = 0 then 1 else 0)) else (lt_ (f_Model_in (le &&& 255) 97 122) fun z_7 => (if z_7 = 0 then (if n_ ≤ 0 then 0 else (if (lg_cmp le 0) = 0 then 1 else 0)) else (f_Model_isName_L5 nm n ((le.toUInt64 >>> ((8 : Int32).toInt64.toUInt64 &&& Int64.toUInt64 63)).toInt64) (n_ + 1))))))
theorem f_Model_isName_L5_s (nm : Int64) (n : Nat) (le : Int64) (n_ : Int32) : f_Model_isName_L5 nm (n + 1) le n_ = (if (lg_cmp le 0) = 0 then (if n_ ≤ 0 then 0 else (if (lg_cmp le 0) = 0 then 1 else 0)) else (if 8 ≤ n_ then (if n_ ≤ 0 then 0 else (if (lg_cmp le 0) = 0 then 1 else 0)) else (lt_ (f_Model_in (le &&& 255) 97 122) fun z_7 => (if z_7 = 0 then (if n_ ≤ 0 then 0 else (if (lg_cmp le 0) = 0 then 1 else 0)) else (f_Model_isName_L5 nm n ((le.toUInt64 >>> ((8 : Int32).toInt64.toUInt64 &&& Int64.toUInt64 63)).toInt64) (n_ + 1)))))) := rfl
def f_Model_isName (nm : Int64) : Int32 := (f_Model_isName_L5 nm 9 nm 0)
abbrev q_Model_isName (dC : Nat → ClassId) (dI : Nat → Nat → Nat) (cB cI cJ : ClassId) (nm : Int64) (A : Nat → Prop) : Array Value → State → Outcome → State → Prop := va_Qi (fun (r : Int32) (u : Unit) => r = f_Model_isName nm) (fun u t => va_P (dC, dI) vwCl [] t.heap ∧ va_D A []) A
set_option maxHeartbeats 4000000 in
set_option maxRecDepth 100000 in
theorem c_Model_isName (l : Launch) (dC : Nat → ClassId) (dI : Nat → Nat → Nat) (cB cI cJ : ClassId) (sz : Nat) (nm : Int64) : Met l y_Model_isName (cw_Model_isName :: bgw) { frames := 1, cells := 0, slots := 0, locals := 25 } (va_Pc [.long nm] (kb_B dC dI cB cI cJ [] sz)) (q_Model_isName dC dI cB cI cJ nm (va_A [] sz)) 0 0 (va_A [] sz) := by
  refine Met.ofW (cc := prog_10_method_19_code) (maxL := 5) (ret := (some .boolean)) (by decide) rfl ?_
  intro p e s m args below meth c s₁ B hml hv
  obtain ⟨rfl, hsz, hP, hKx, hD0⟩ := hv
  have hx := B.exec
  have hb := B.bytes
  have hr := B.returns
  have hts := atoms_spec (ws := (cw_Model_isName :: bgw)) B.pre
  have hown : s.vm.findClass "PermitRulesModel" = some m.cls := findClass_of_methodNamed B.named
  have hlocks := B.notSynchronized
  have htb := fun (w : Cond) (h : w ∈ bgw) => hts w (List.mem_cons_of_mem _ h)
  have hK := hKx.1
  subst hsz
  have hD := hD0.self (sz := s.heap.size)
  generalize hAe : va_A [] s.heap.size = A at hD ⊢
  have hA : ∀ q : Nat, s.heap.size ≤ q → A q := fun q h => by rw [← hAe]; exact Or.inr h
  have hS : va_S A s.heap s.heap [] := va_S.rf
  have hl := lv_entry ([.long nm]) (n := 5) (Nat.le_of_ble_eq_true rfl)
  rw [lg_entry_eq]
  generalize (lg_sl ([.long nm]) ++ List.replicate (5 - (lg_sl ([.long nm])).length) Slot.unset).toArray = ls at hl ⊢
  have hl : lv_has ls 5 [(0, .long nm)] := hl
  have hP : va_P (dC, dI) vwCl [] s.heap := hP
  have hF : f_Model_isName nm = (f_Model_isName_L5 nm 9 nm 0) := rfl
  have lp5 : ∀ (n : Nat) (le : Int64) (n_ : Int32), 0 ≤ n_.toInt → (8 - n_.toInt).toNat < n → f_Model_isName nm = f_Model_isName_L5 nm n le n_ → ∀ (H : Heap) (locs : List Loc) (ls : Array Slot), va_P (dC, dI) vwCl [] H → va_D A [] → va_S A s.heap H locs → lv_has ls 5 [(4, .int n_), (2, .long le)] → W p l e (headSpec (cw_Model_isName :: bgw) { frames := 1, cells := 0, slots := 0, locals := 25 }).room s m ([.long nm] : List Value).toArray below meth c H locs 0 0 (MQ below (q_Model_isName dC dI cB cI cJ nm A) ([.long nm] : List Value).toArray s 0 0 A) (F0 m 5 ls []) := by
    intro n
    induction n with
    | zero => intro le n_ i0 hn; exact absurd hn (Nat.not_lt_zero _)
    | succ n ih =>
      intro le n_ i0 hn hF H locs ls hP hD hS hl
      have hF := hF.trans (f_Model_isName_L5_s nm n le n_)
      refine lv_lload_n hx hb d_Model_isName_5 rfl (lv_at hl 1 rfl) ?_
      refine lv_lconst (v := 0) hx hb d_Model_isName_6 (by decide) ?_
      refine W.lcmp hx hb d_Model_isName_7 ?_
      refine lv_if_eq (tgt := 46) hx hb d_Model_isName_8 (by decide) (fun c_1 => ?_) (fun c_1 => ?_)
      · have hF := hF.trans (if_pos c_1)
        refine lv_iload hx hb d_Model_isName_46 (lv_at hl 0 rfl) ?_
        refine lv_if_le (tgt := 61) hx hb d_Model_isName_48 (by decide) (fun c_2 => ?_) (fun c_2 => ?_)
        · have hF := hF.trans (if_pos c_2)
          have tc_2 := ti_le (Eq.refl n_.toInt) (show (0 : Int32).toInt = 0 by decide) c_2
          refine lv_iconst (v := 0) hx hb d_Model_isName_61 (by decide) ?_
          have hP9 := hP.sub (ws' := []) [] rfl
          have hD9 := hD.sub (ws' := []) [] (by decide) rfl
          exact W.zret (v := (0 : Int32)) hx hb hr (rfl) (fun t ht hW => ⟨⟨(0 : Int32), (), rfl, by rw [hF], by rw [ht]; exact hP9, hD9⟩, hS.F ht⟩) hS.2.2 d_Model_isName_62
        · have hF := hF.trans (if_neg c_2)
          have tc_2 := ti_nle (Eq.refl n_.toInt) (show (0 : Int32).toInt = 0 by decide) c_2
          refine lv_lload_n hx hb d_Model_isName_51 rfl (lv_at hl 1 rfl) ?_
          refine lv_lconst (v := 0) hx hb d_Model_isName_52 (by decide) ?_
          refine W.lcmp hx hb d_Model_isName_53 ?_
          refine lv_if_ne (tgt := 61) hx hb d_Model_isName_54 (by decide) (fun c_3 => ?_) (fun c_3 => ?_)
          · have hF := hF.trans (if_neg c_3)
            refine lv_iconst (v := 0) hx hb d_Model_isName_61 (by decide) ?_
            have hP9 := hP.sub (ws' := []) [] rfl
            have hD9 := hD.sub (ws' := []) [] (by decide) rfl
            exact W.zret (v := (0 : Int32)) hx hb hr (rfl) (fun t ht hW => ⟨⟨(0 : Int32), (), rfl, by rw [hF], by rw [ht]; exact hP9, hD9⟩, hS.F ht⟩) hS.2.2 d_Model_isName_62
          · have hF := hF.trans (if_pos c_3)
            refine lv_iconst (v := 1) hx hb d_Model_isName_57 (by decide) ?_
            refine lv_goto (tgt := 62) hx hb d_Model_isName_58 (by decide) ?_
            have hP9 := hP.sub (ws' := []) [] rfl
            have hD9 := hD.sub (ws' := []) [] (by decide) rfl
            exact W.zret (v := (1 : Int32)) hx hb hr (rfl) (fun t ht hW => ⟨⟨(1 : Int32), (), rfl, by rw [hF], by rw [ht]; exact hP9, hD9⟩, hS.F ht⟩) hS.2.2 d_Model_isName_62
      · have hF := hF.trans (if_neg c_1)
        refine lv_iload hx hb d_Model_isName_11 (lv_at hl 0 rfl) ?_
        refine lv_bipush (v := 8) hx hb d_Model_isName_13 (by decide) ?_
        refine lv_icmp_ge (tgt := 46) hx hb d_Model_isName_15 (by decide) (fun c_4 => ?_) (fun c_4 => ?_)
        · have hF := hF.trans (if_pos c_4)
          have tc_4 := ti_le (show (8 : Int32).toInt = 8 by decide) (Eq.refl n_.toInt) c_4
          refine lv_iload hx hb d_Model_isName_46 (lv_at hl 0 rfl) ?_
          refine lv_if_le (tgt := 61) hx hb d_Model_isName_48 (by decide) (fun c_5 => ?_) (fun c_5 => ?_)
          · have hF := hF.trans (if_pos c_5)
            have tc_5 := ti_le (Eq.refl n_.toInt) (show (0 : Int32).toInt = 0 by decide) c_5
            refine lv_iconst (v := 0) hx hb d_Model_isName_61 (by decide) ?_
            have hP9 := hP.sub (ws' := []) [] rfl
            have hD9 := hD.sub (ws' := []) [] (by decide) rfl
            exact W.zret (v := (0 : Int32)) hx hb hr (rfl) (fun t ht hW => ⟨⟨(0 : Int32), (), rfl, by rw [hF], by rw [ht]; exact hP9, hD9⟩, hS.F ht⟩) hS.2.2 d_Model_isName_62
          · have hF := hF.trans (if_neg c_5)
            have tc_5 := ti_nle (Eq.refl n_.toInt) (show (0 : Int32).toInt = 0 by decide) c_5
            refine lv_lload_n hx hb d_Model_isName_51 rfl (lv_at hl 1 rfl) ?_
            refine lv_lconst (v := 0) hx hb d_Model_isName_52 (by decide) ?_
            refine W.lcmp hx hb d_Model_isName_53 ?_
            refine lv_if_ne (tgt := 61) hx hb d_Model_isName_54 (by decide) (fun c_6 => ?_) (fun c_6 => ?_)
            · have hF := hF.trans (if_neg c_6)
              refine lv_iconst (v := 0) hx hb d_Model_isName_61 (by decide) ?_
              have hP9 := hP.sub (ws' := []) [] rfl
              have hD9 := hD.sub (ws' := []) [] (by decide) rfl
              exact W.zret (v := (0 : Int32)) hx hb hr (rfl) (fun t ht hW => ⟨⟨(0 : Int32), (), rfl, by rw [hF], by rw [ht]; exact hP9, hD9⟩, hS.F ht⟩) hS.2.2 d_Model_isName_62
            · have hF := hF.trans (if_pos c_6)
              refine lv_iconst (v := 1) hx hb d_Model_isName_57 (by decide) ?_
              refine lv_goto (tgt := 62) hx hb d_Model_isName_58 (by decide) ?_
              have hP9 := hP.sub (ws' := []) [] rfl
              have hD9 := hD.sub (ws' := []) [] (by decide) rfl
              exact W.zret (v := (1 : Int32)) hx hb hr (rfl) (fun t ht hW => ⟨⟨(1 : Int32), (), rfl, by rw [hF], by rw [ht]; exact hP9, hD9⟩, hS.F ht⟩) hS.2.2 d_Model_isName_62
        · have hF := hF.trans (if_neg c_4)
          have tc_4 := ti_nle (show (8 : Int32).toInt = 8 by decide) (Eq.refl n_.toInt) c_4
          refine lv_lload_n hx hb d_Model_isName_18 rfl (lv_at hl 1 rfl) ?_
          refine lv_ldc2 (v := 255) hx hb hown (htb _ mb_782) d_Model_isName_19 ?_
          refine lv_land hx hb d_Model_isName_22 ?_
          refine lv_ldc2 (v := 97) hx hb hown (htb _ mb_815) d_Model_isName_23 ?_
          refine lv_ldc2 (v := 122) hx hb hown (htb _ mb_816) d_Model_isName_26 ?_
          have hPc := hP.sub (ws' := []) [] rfl
          have hDc := hD.sub (ws' := []) [] (by decide) rfl
          have hFc := va_free (wc := []) hD hS hA [] rfl
          refine va_calli (va_runS (As := [.long (le &&& 255), .long 97, .long 122]) (rest := []) ⟨hx, hb, hml, hown, htb⟩ (c_Model_in l dC dI cB cI cJ  _ (le &&& 255) 97 122 ) ⟨callB_of 3 htb (gb_all mb_787) rfl rfl rfl (htb _ mb_9) (htb _ mb_785) (by decide +kernel) ⟨Nat.le_of_ble_eq_true rfl, Nat.le_of_ble_eq_true rfl⟩, htb _ mb_786⟩ ⟨kb_blind, kb_at hPc hDc hKx⟩ rfl rfl hl.1 rfl (lv_room (Nat.le_of_ble_eq_true rfl)) d_Model_isName_29 ⟨Nat.le_of_ble_eq_true rfl, Nat.le_of_ble_eq_true rfl⟩) hS (fun q _ h => hFc q h) hFc (fun z_7 u t H1 locs ht hvm hw hB hz1 hk1 hS => ?_)
          have hz_7 := hw
          have hF := hF.trans (lt_e hz_7)
          obtain ⟨hP1, hD1⟩ := hB
          rw [ht] at hP1
          obtain ⟨hP, hD⟩ := va_join (wr := []) (w1 := []) hP hD [] [] rfl rfl (by decide) (by decide) hk1 hFc hP1 hD1
          generalize H1 = H at hP hS ⊢
          have hP : va_P (dC, dI) vwCl [] H := hP
          have hD : va_D A [] := hD
          refine lv_if_eq (tgt := 46) hx hb d_Model_isName_32 (by decide) (fun c_8 => ?_) (fun c_8 => ?_)
          · have hF := hF.trans (if_pos c_8)
            have tc_8 := ti_eq (Eq.refl z_7.toInt) (show (0 : Int32).toInt = 0 by decide) c_8
            refine lv_iload hx hb d_Model_isName_46 (lv_at hl 0 rfl) ?_
            refine lv_if_le (tgt := 61) hx hb d_Model_isName_48 (by decide) (fun c_9 => ?_) (fun c_9 => ?_)
            · have hF := hF.trans (if_pos c_9)
              have tc_9 := ti_le (Eq.refl n_.toInt) (show (0 : Int32).toInt = 0 by decide) c_9
              refine lv_iconst (v := 0) hx hb d_Model_isName_61 (by decide) ?_
              have hP9 := hP.sub (ws' := []) [] rfl
              have hD9 := hD.sub (ws' := []) [] (by decide) rfl
              exact W.zret (v := (0 : Int32)) hx hb hr (rfl) (fun t ht hW => ⟨⟨(0 : Int32), (), rfl, by rw [hF], by rw [ht]; exact hP9, hD9⟩, hS.F ht⟩) hS.2.2 d_Model_isName_62
            · have hF := hF.trans (if_neg c_9)
              have tc_9 := ti_nle (Eq.refl n_.toInt) (show (0 : Int32).toInt = 0 by decide) c_9
              refine lv_lload_n hx hb d_Model_isName_51 rfl (lv_at hl 1 rfl) ?_
              refine lv_lconst (v := 0) hx hb d_Model_isName_52 (by decide) ?_
              refine W.lcmp hx hb d_Model_isName_53 ?_
              refine lv_if_ne (tgt := 61) hx hb d_Model_isName_54 (by decide) (fun c_10 => ?_) (fun c_10 => ?_)
              · have hF := hF.trans (if_neg c_10)
                refine lv_iconst (v := 0) hx hb d_Model_isName_61 (by decide) ?_
                have hP9 := hP.sub (ws' := []) [] rfl
                have hD9 := hD.sub (ws' := []) [] (by decide) rfl
                exact W.zret (v := (0 : Int32)) hx hb hr (rfl) (fun t ht hW => ⟨⟨(0 : Int32), (), rfl, by rw [hF], by rw [ht]; exact hP9, hD9⟩, hS.F ht⟩) hS.2.2 d_Model_isName_62
              · have hF := hF.trans (if_pos c_10)
                refine lv_iconst (v := 1) hx hb d_Model_isName_57 (by decide) ?_
                refine lv_goto (tgt := 62) hx hb d_Model_isName_58 (by decide) ?_
                have hP9 := hP.sub (ws' := []) [] rfl
                have hD9 := hD.sub (ws' := []) [] (by decide) rfl
                exact W.zret (v := (1 : Int32)) hx hb hr (rfl) (fun t ht hW => ⟨⟨(1 : Int32), (), rfl, by rw [hF], by rw [ht]; exact hP9, hD9⟩, hS.F ht⟩) hS.2.2 d_Model_isName_62
          · have hF := hF.trans (if_neg c_8)
            have tc_8 := ti_ne (Eq.refl z_7.toInt) (show (0 : Int32).toInt = 0 by decide) c_8
            refine lv_lload_n hx hb d_Model_isName_35 rfl (lv_at hl 1 rfl) ?_
            refine lv_bipush (v := 8) hx hb d_Model_isName_36 (by decide) ?_
            refine lv_lushr (v := (le.toUInt64 >>> ((8 : Int32).toInt64.toUInt64 &&& Int64.toUInt64 63)).toInt64) hx hb d_Model_isName_38 rfl ?_
            refine lv_lstore_n (lv' := [(2, .long ((le.toUInt64 >>> ((8 : Int32).toInt64.toUInt64 &&& Int64.toUInt64 63)).toInt64)), (4, .int n_)]) hx hb d_Model_isName_39 rfl hl (by decide) rfl (fun ls hl => ?_)
            refine lv_iinc (v := n_ + 1) (lv' := [(4, .int (n_ + 1)), (2, .long ((le.toUInt64 >>> ((8 : Int32).toInt64.toUInt64 &&& Int64.toUInt64 63)).toInt64))]) hx hb d_Model_isName_40 hl (k := 1) rfl (by first | rfl | decide) (by decide) rfl (fun ls hl => ?_)
            refine lv_goto (tgt := 5) hx hb d_Model_isName_43 (by decide) ?_
            exact ih ((le.toUInt64 >>> ((8 : Int32).toInt64.toUInt64 &&& Int64.toUInt64 63)).toInt64) (n_ + 1) (by have q0 := (oi_addE (Eq.refl n_.toInt) (show (1 : Int32).toInt = 1 by decide) (by omega) (by omega)); omega) (by have q0 := (oi_addE (Eq.refl n_.toInt) (show (1 : Int32).toInt = 1 by decide) (by omega) (by omega)); omega) hF _ _ _ (hP.sub [] rfl) (hD.sub [] (by decide) rfl) hS (lv_sub hl [0, 1] rfl)
  refine lv_lload_n hx hb d_Model_isName_0 rfl (lv_at hl 0 rfl) ?_
  refine lv_lstore_n (lv' := [(2, .long nm), (0, .long nm)]) hx hb d_Model_isName_1 rfl hl (by decide) rfl (fun ls hl => ?_)
  refine lv_iconst (v := 0) hx hb d_Model_isName_2 (by decide) ?_
  refine lv_istore (lv' := [(4, .int 0), (2, .long nm), (0, .long nm)]) hx hb d_Model_isName_3 hl (by decide) rfl (fun ls hl => ?_)
  exact lp5 9 nm 0 (by have q0 := (show (0 : Int32).toInt = 0 by decide); omega) (by have q0 := (show (0 : Int32).toInt = 0 by decide); omega) hF _ _ _ (hP.sub [] rfl) (hD.sub [] (by decide) rfl) hS (lv_sub hl [0, 1] rfl)
def f_Model_factOf_L5 (nm : Int64) (fc : Int32) (gn : (Nat → Int64)) : Nat → Int32 → Int32 → Int32
  | 0, _, _ => 0
  | n + 1, k_, fo => (if fc ≤ k_ then fo else (if (lg_cmp (gn k_.toNatClampNeg) nm) = 0 then (f_Model_factOf_L5 nm fc gn n (k_ + 1) k_) else (f_Model_factOf_L5 nm fc gn n (k_ + 1) fo)))
theorem f_Model_factOf_L5_s (nm : Int64) (fc : Int32) (gn : (Nat → Int64)) (n : Nat) (k_ : Int32) (fo : Int32) : f_Model_factOf_L5 nm fc gn (n + 1) k_ fo = (if fc ≤ k_ then fo else (if (lg_cmp (gn k_.toNatClampNeg) nm) = 0 then (f_Model_factOf_L5 nm fc gn n (k_ + 1) k_) else (f_Model_factOf_L5 nm fc gn n (k_ + 1) fo))) := rfl
def f_Model_factOf (nm : Int64) (fc : Int32) (gn : (Nat → Int64)) : Int32 := (f_Model_factOf_L5 nm fc gn (fc.toInt.toNat + 1) 0 (-1))
abbrev q_Model_factOf (dC : Nat → ClassId) (dI : Nat → Nat → Nat) (cB cI cJ : ClassId) (oM mT mN mD mF mS mL mR mE mK mV mO mA mB mU mW mX mY : Nat) (nm : Int64) (th : Int32) (ml : Int32) (ma : Int32) (mk : Int32) (mp : Int32) (mv : Int64) (mw : Int32) (dr : Int32) (dc : Int32) (ds : Int32) (ru : Int32) (cl : Int32) (os : Int32) (fc : Int32) (pi : Int32) (wh : Int32) (ms : Int64) (aq : Int32) (da : Int32) (lu : Int64) (ld : Int64) (qu : Int64) (qd : Int64) (gn : (Nat → Int64)) (A : Nat → Prop) : Array Value → State → Outcome → State → Prop := va_Qi (fun (r : Int32) (u : Unit) => r = f_Model_factOf nm fc gn) (fun u t => va_P (dC, dI) vwCl [(oM, .inr (8, [.int th, .ref mT, .int ml, .int ma, .int mk, .int mp, .long mv, .int mw, .ref mN, .ref mD, .ref mF, .ref mS, .ref mL, .ref mR, .ref mE, .ref mK, .ref mV, .int dr, .int dc, .int ds, .int ru, .int cl, .ref mO, .int os, .int fc, .ref mA, .ref mB, .ref mU, .ref mW, .int pi, .int wh, .long ms, .int aq, .int da, .ref mX, .ref mY, .long lu, .long ld, .long qu, .long qd])), (mA, .inl (cJ, 40, .inr (.inl gn)))] t.heap ∧ va_D A [(oM, .inr (8, [.int th, .ref mT, .int ml, .int ma, .int mk, .int mp, .long mv, .int mw, .ref mN, .ref mD, .ref mF, .ref mS, .ref mL, .ref mR, .ref mE, .ref mK, .ref mV, .int dr, .int dc, .int ds, .int ru, .int cl, .ref mO, .int os, .int fc, .ref mA, .ref mB, .ref mU, .ref mW, .int pi, .int wh, .long ms, .int aq, .int da, .ref mX, .ref mY, .long lu, .long ld, .long qu, .long qd])), (mA, .inl (cJ, 40, .inr (.inl gn)))]) A
set_option maxHeartbeats 4000000 in
set_option maxRecDepth 100000 in
theorem c_Model_factOf (l : Launch) (dC : Nat → ClassId) (dI : Nat → Nat → Nat) (cB cI cJ : ClassId) (oM mT mN mD mF mS mL mR mE mK mV mO mA mB mU mW mX mY : Nat) (sz : Nat) (nm : Int64) (th : Int32) (ml : Int32) (ma : Int32) (mk : Int32) (mp : Int32) (mv : Int64) (mw : Int32) (dr : Int32) (dc : Int32) (ds : Int32) (ru : Int32) (cl : Int32) (os : Int32) (fc : Int32) (pi : Int32) (wh : Int32) (ms : Int64) (aq : Int32) (da : Int32) (lu : Int64) (ld : Int64) (qu : Int64) (qd : Int64) (gn : (Nat → Int64)) (hf0 : 0 ≤ fc.toInt) (hf : fc.toInt ≤ 40) : Met l y_Model_factOf (cw_Model_factOf :: bgw) { frames := 0, cells := 0, slots := 0, locals := 0 } (va_Pc [.ref oM, .long nm] (kb_B dC dI cB cI cJ [(oM, .inr (8, [.int th, .ref mT, .int ml, .int ma, .int mk, .int mp, .long mv, .int mw, .ref mN, .ref mD, .ref mF, .ref mS, .ref mL, .ref mR, .ref mE, .ref mK, .ref mV, .int dr, .int dc, .int ds, .int ru, .int cl, .ref mO, .int os, .int fc, .ref mA, .ref mB, .ref mU, .ref mW, .int pi, .int wh, .long ms, .int aq, .int da, .ref mX, .ref mY, .long lu, .long ld, .long qu, .long qd])), (mA, .inl (cJ, 40, .inr (.inl gn)))] sz)) (q_Model_factOf dC dI cB cI cJ oM mT mN mD mF mS mL mR mE mK mV mO mA mB mU mW mX mY nm th ml ma mk mp mv mw dr dc ds ru cl os fc pi wh ms aq da lu ld qu qd gn (va_A [(oM, .inr (8, [.int th, .ref mT, .int ml, .int ma, .int mk, .int mp, .long mv, .int mw, .ref mN, .ref mD, .ref mF, .ref mS, .ref mL, .ref mR, .ref mE, .ref mK, .ref mV, .int dr, .int dc, .int ds, .int ru, .int cl, .ref mO, .int os, .int fc, .ref mA, .ref mB, .ref mU, .ref mW, .int pi, .int wh, .long ms, .int aq, .int da, .ref mX, .ref mY, .long lu, .long ld, .long qu, .long qd])), (mA, .inl (cJ, 40, .inr (.inl gn)))] sz)) 0 0 (va_A [(oM, .inr (8, [.int th, .ref mT, .int ml, .int ma, .int mk, .int mp, .long mv, .int mw, .ref mN, .ref mD, .ref mF, .ref mS, .ref mL, .ref mR, .ref mE, .ref mK, .ref mV, .int dr, .int dc, .int ds, .int ru, .int cl, .ref mO, .int os, .int fc, .ref mA, .ref mB, .ref mU, .ref mW, .int pi, .int wh, .long ms, .int aq, .int da, .ref mX, .ref mY, .long lu, .long ld, .long qu, .long qd])), (mA, .inl (cJ, 40, .inr (.inl gn)))] sz) := by
  refine Met.ofW (cc := prog_10_method_20_code) (maxL := 5) (ret := (some .int)) (by decide) rfl ?_
  intro p e s m args below meth c s₁ B hml hv
  obtain ⟨rfl, hsz, hP, hKx, hD0⟩ := hv
  have hx := B.exec
  have hb := B.bytes
  have hr := B.returns
  have hts := atoms_spec (ws := (cw_Model_factOf :: bgw)) B.pre
  have hown : s.vm.findClass "PermitRulesModel" = some m.cls := findClass_of_methodNamed B.named
  have hlocks := B.notSynchronized
  have htb := fun (w : Cond) (h : w ∈ bgw) => hts w (List.mem_cons_of_mem _ h)
  have hK := hKx.1
  subst hsz
  have hD := hD0.self (sz := s.heap.size)
  generalize hAe : va_A [(oM, .inr (8, [.int th, .ref mT, .int ml, .int ma, .int mk, .int mp, .long mv, .int mw, .ref mN, .ref mD, .ref mF, .ref mS, .ref mL, .ref mR, .ref mE, .ref mK, .ref mV, .int dr, .int dc, .int ds, .int ru, .int cl, .ref mO, .int os, .int fc, .ref mA, .ref mB, .ref mU, .ref mW, .int pi, .int wh, .long ms, .int aq, .int da, .ref mX, .ref mY, .long lu, .long ld, .long qu, .long qd])), (mA, .inl (cJ, 40, .inr (.inl gn)))] s.heap.size = A at hD ⊢
  have hA : ∀ q : Nat, s.heap.size ≤ q → A q := fun q h => by rw [← hAe]; exact Or.inr h
  have hS : va_S A s.heap s.heap [] := va_S.rf
  have hl := lv_entry ([.ref oM, .long nm]) (n := 5) (Nat.le_of_ble_eq_true rfl)
  rw [lg_entry_eq]
  generalize (lg_sl ([.ref oM, .long nm]) ++ List.replicate (5 - (lg_sl ([.ref oM, .long nm])).length) Slot.unset).toArray = ls at hl ⊢
  have hl : lv_has ls 5 [(0, .ref oM), (1, .long nm)] := hl
  have hP : va_P (dC, dI) vwCl [(oM, .inr (8, [.int th, .ref mT, .int ml, .int ma, .int mk, .int mp, .long mv, .int mw, .ref mN, .ref mD, .ref mF, .ref mS, .ref mL, .ref mR, .ref mE, .ref mK, .ref mV, .int dr, .int dc, .int ds, .int ru, .int cl, .ref mO, .int os, .int fc, .ref mA, .ref mB, .ref mU, .ref mW, .int pi, .int wh, .long ms, .int aq, .int da, .ref mX, .ref mY, .long lu, .long ld, .long qu, .long qd])), (mA, .inl (cJ, 40, .inr (.inl gn)))] s.heap := hP
  have hF : f_Model_factOf nm fc gn = (f_Model_factOf_L5 nm fc gn (fc.toInt.toNat + 1) 0 (-1)) := rfl
  have lp5 : ∀ (n : Nat) (k_ : Int32) (fo : Int32), 0 ≤ k_.toInt → (fc.toInt - k_.toInt).toNat < n → f_Model_factOf nm fc gn = f_Model_factOf_L5 nm fc gn n k_ fo → ∀ (H : Heap) (locs : List Loc) (ls : Array Slot), va_P (dC, dI) vwCl [(oM, .inr (8, [.int th, .ref mT, .int ml, .int ma, .int mk, .int mp, .long mv, .int mw, .ref mN, .ref mD, .ref mF, .ref mS, .ref mL, .ref mR, .ref mE, .ref mK, .ref mV, .int dr, .int dc, .int ds, .int ru, .int cl, .ref mO, .int os, .int fc, .ref mA, .ref mB, .ref mU, .ref mW, .int pi, .int wh, .long ms, .int aq, .int da, .ref mX, .ref mY, .long lu, .long ld, .long qu, .long qd])), (mA, .inl (cJ, 40, .inr (.inl gn)))] H → va_D A [(oM, .inr (8, [.int th, .ref mT, .int ml, .int ma, .int mk, .int mp, .long mv, .int mw, .ref mN, .ref mD, .ref mF, .ref mS, .ref mL, .ref mR, .ref mE, .ref mK, .ref mV, .int dr, .int dc, .int ds, .int ru, .int cl, .ref mO, .int os, .int fc, .ref mA, .ref mB, .ref mU, .ref mW, .int pi, .int wh, .long ms, .int aq, .int da, .ref mX, .ref mY, .long lu, .long ld, .long qu, .long qd])), (mA, .inl (cJ, 40, .inr (.inl gn)))] → va_S A s.heap H locs → lv_has ls 5 [(4, .int k_), (3, .int fo), (0, .ref oM), (1, .long nm)] → W p l e (headSpec (cw_Model_factOf :: bgw) { frames := 0, cells := 0, slots := 0, locals := 0 }).room s m ([.ref oM, .long nm] : List Value).toArray below meth c H locs 0 0 (MQ below (q_Model_factOf dC dI cB cI cJ oM mT mN mD mF mS mL mR mE mK mV mO mA mB mU mW mX mY nm th ml ma mk mp mv mw dr dc ds ru cl os fc pi wh ms aq da lu ld qu qd gn A) ([.ref oM, .long nm] : List Value).toArray s 0 0 A) (F0 m 5 ls []) := by
    intro n
    induction n with
    | zero => intro k_ fo i0 hn; exact absurd hn (Nat.not_lt_zero _)
    | succ n ih =>
      intro k_ fo i0 hn hF H locs ls hP hD hS hl
      have hF := hF.trans (f_Model_factOf_L5_s nm fc gn n k_ fo)
      refine lv_iload hx hb d_Model_factOf_5 (lv_at hl 0 rfl) ?_
      refine lv_aload_n hx hb d_Model_factOf_7 rfl (lv_at hl 2 rfl) ?_
      refine va_get (D := (dC, dI)) (ci := 8) (v := .int fc) (C := "PermitRulesModel") (T := T_Model) (N := 40) hx hb htb in_Model hown hK hP 0 rfl rfl 24 (by decide) (htb _ mb_677) (fun _ h9 => h9) rfl d_Model_factOf_8 ?_
      refine lv_icmp_ge (tgt := 39) hx hb d_Model_factOf_11 (by decide) (fun c_1 => ?_) (fun c_1 => ?_)
      · have hF := hF.trans (if_pos c_1)
        have tc_1 := ti_le (Eq.refl fc.toInt) (Eq.refl k_.toInt) c_1
        refine lv_iload_n hx hb d_Model_factOf_39 rfl (lv_at hl 1 rfl) ?_
        have hP9 := hP.sub (ws' := [(oM, .inr (8, [.int th, .ref mT, .int ml, .int ma, .int mk, .int mp, .long mv, .int mw, .ref mN, .ref mD, .ref mF, .ref mS, .ref mL, .ref mR, .ref mE, .ref mK, .ref mV, .int dr, .int dc, .int ds, .int ru, .int cl, .ref mO, .int os, .int fc, .ref mA, .ref mB, .ref mU, .ref mW, .int pi, .int wh, .long ms, .int aq, .int da, .ref mX, .ref mY, .long lu, .long ld, .long qu, .long qd])), (mA, .inl (cJ, 40, .inr (.inl gn)))]) [0, 1] rfl
        have hD9 := hD.sub (ws' := [(oM, .inr (8, [.int th, .ref mT, .int ml, .int ma, .int mk, .int mp, .long mv, .int mw, .ref mN, .ref mD, .ref mF, .ref mS, .ref mL, .ref mR, .ref mE, .ref mK, .ref mV, .int dr, .int dc, .int ds, .int ru, .int cl, .ref mO, .int os, .int fc, .ref mA, .ref mB, .ref mU, .ref mW, .int pi, .int wh, .long ms, .int aq, .int da, .ref mX, .ref mY, .long lu, .long ld, .long qu, .long qd])), (mA, .inl (cJ, 40, .inr (.inl gn)))]) [0, 1] (by decide) rfl
        exact W.iret (v := fo) hx hb hr (fun t ht hW => ⟨⟨fo, (), rfl, by rw [hF], by rw [ht]; exact hP9, hD9⟩, hS.F ht⟩) hS.2.2 d_Model_factOf_40
      · have hF := hF.trans (if_neg c_1)
        have tc_1 := ti_nle (Eq.refl fc.toInt) (Eq.refl k_.toInt) c_1
        refine lv_aload_n hx hb d_Model_factOf_14 rfl (lv_at hl 2 rfl) ?_
        refine va_get (D := (dC, dI)) (ci := 8) (v := .ref mA) (C := "PermitRulesModel") (T := T_Model) (N := 40) hx hb htb in_Model hown hK hP 0 rfl rfl 25 (by decide) (htb _ mb_678) (fun _ h9 => h9) rfl d_Model_factOf_15 ?_
        refine lv_iload hx hb d_Model_factOf_18 (lv_at hl 0 rfl) ?_
        refine va_lald hx hb hK hP 1 2 rfl rfl (ib_in (Eq.refl k_.toInt) (by omega) (by omega)) d_Model_factOf_20 ?_
        refine lv_lload_n hx hb d_Model_factOf_21 rfl (lv_at hl 3 rfl) ?_
        refine W.lcmp hx hb d_Model_factOf_22 ?_
        refine lv_if_ne (tgt := 31) hx hb d_Model_factOf_23 (by decide) (fun c_2 => ?_) (fun c_2 => ?_)
        · have hF := hF.trans (if_neg c_2)
          refine lv_iload_n hx hb d_Model_factOf_31 rfl (lv_at hl 1 rfl) ?_
          refine lv_istore_n (lv' := [(3, .int fo), (4, .int k_), (0, .ref oM), (1, .long nm)]) hx hb d_Model_factOf_32 rfl hl (by decide) rfl (fun ls hl => ?_)
          refine lv_iinc (v := k_ + 1) (lv' := [(4, .int (k_ + 1)), (3, .int fo), (0, .ref oM), (1, .long nm)]) hx hb d_Model_factOf_33 hl (k := 1) rfl (by first | rfl | decide) (by decide) rfl (fun ls hl => ?_)
          refine lv_goto (tgt := 5) hx hb d_Model_factOf_36 (by decide) ?_
          exact ih (k_ + 1) fo (by have q0 := (oi_addE (Eq.refl k_.toInt) (show (1 : Int32).toInt = 1 by decide) (by omega) (by omega)); omega) (by have q0 := (oi_addE (Eq.refl k_.toInt) (show (1 : Int32).toInt = 1 by decide) (by omega) (by omega)); omega) hF _ _ _ (hP.sub [0, 1] rfl) (hD.sub [0, 1] (by decide) rfl) hS (lv_sub hl [0, 1, 2, 3] rfl)
        · have hF := hF.trans (if_pos c_2)
          refine lv_iload hx hb d_Model_factOf_26 (lv_at hl 0 rfl) ?_
          refine lv_goto (tgt := 32) hx hb d_Model_factOf_28 (by decide) ?_
          refine lv_istore_n (lv' := [(3, .int k_), (4, .int k_), (0, .ref oM), (1, .long nm)]) hx hb d_Model_factOf_32 rfl hl (by decide) rfl (fun ls hl => ?_)
          refine lv_iinc (v := k_ + 1) (lv' := [(4, .int (k_ + 1)), (3, .int k_), (0, .ref oM), (1, .long nm)]) hx hb d_Model_factOf_33 hl (k := 1) rfl (by first | rfl | decide) (by decide) rfl (fun ls hl => ?_)
          refine lv_goto (tgt := 5) hx hb d_Model_factOf_36 (by decide) ?_
          exact ih (k_ + 1) k_ (by have q0 := (oi_addE (Eq.refl k_.toInt) (show (1 : Int32).toInt = 1 by decide) (by omega) (by omega)); omega) (by have q0 := (oi_addE (Eq.refl k_.toInt) (show (1 : Int32).toInt = 1 by decide) (by omega) (by omega)); omega) hF _ _ _ (hP.sub [0, 1] rfl) (hD.sub [0, 1] (by decide) rfl) hS (lv_sub hl [0, 1, 2, 3] rfl)
  refine lv_iconst (v := (-1)) hx hb d_Model_factOf_0 (by decide) ?_
  refine lv_istore_n (lv' := [(3, .int (-1)), (0, .ref oM), (1, .long nm)]) hx hb d_Model_factOf_1 rfl hl (by decide) rfl (fun ls hl => ?_)
  refine lv_iconst (v := 0) hx hb d_Model_factOf_2 (by decide) ?_
  refine lv_istore (lv' := [(4, .int 0), (3, .int (-1)), (0, .ref oM), (1, .long nm)]) hx hb d_Model_factOf_3 hl (by decide) rfl (fun ls hl => ?_)
  exact lp5 (fc.toInt.toNat + 1) 0 (-1) (by have q0 := (show (0 : Int32).toInt = 0 by decide); omega) (by have q0 := (show (0 : Int32).toInt = 0 by decide); omega) hF _ _ _ (hP.sub [0, 1] rfl) (hD.sub [0, 1] (by decide) rfl) hS (lv_sub hl [0, 1, 2, 3] rfl)
theorem fo_g (nm : Int64) (fc : Int32) (gn : Nat → Int64) : ∀ (n : Nat) (k_ fo : Int32), -1 ≤ fo.toInt → fo.toInt < fc.toInt → 0 ≤ fc.toInt → 0 ≤ k_.toInt → -1 ≤ (f_Model_factOf_L5 nm fc gn n k_ fo).toInt ∧ (f_Model_factOf_L5 nm fc gn n k_ fo).toInt ≤ fc.toInt ∧ (0 < n → (fc.toInt - k_.toInt).toNat < n → (f_Model_factOf_L5 nm fc gn n k_ fo).toInt < fc.toInt) := by
  intro n
  induction n with
  | zero => intro k_ fo h1 h2 h3 h4; exact ⟨by simp only [f_Model_factOf_L5, oi_z]; omega, by simp only [f_Model_factOf_L5, oi_z]; omega, fun h => absurd h (Nat.lt_irrefl _)⟩
  | succ n ih =>
    intro k_ fo h1 h2 h3 h4
    rw [f_Model_factOf_L5_s]
    split
    · exact ⟨h1, by omega, fun _ _ => h2⟩
    · rename_i h5
      rw [oi_le] at h5
      have h6 := oi_hi fc
      have h7 : (k_ + 1).toInt = k_.toInt + 1 := by rw [oi_add (by rw [oi_1]; omega) (by rw [oi_1]; omega), oi_1]
      split
      · have a := ih (k_ + 1) k_ (by omega) (by omega) h3 (by rw [h7]; omega)
        rw [h7] at a
        refine ⟨a.1, a.2.1, fun _ hn => ?_⟩
        by_cases hz : 0 < n
        · exact a.2.2 hz (by omega)
        · exact absurd hn (by omega)
      · have a := ih (k_ + 1) fo h1 h2 h3 (by rw [h7]; omega)
        rw [h7] at a
        refine ⟨a.1, a.2.1, fun _ hn => ?_⟩
        by_cases hz : 0 < n
        · exact a.2.2 hz (by omega)
        · exact absurd hn (by omega)
theorem fo_b {z fc : Int32} {nm : Int64} {gn : Nat → Int64} (hz : z = f_Model_factOf nm fc gn) (h : 0 ≤ fc.toInt) : -1 ≤ z.toInt ∧ z.toInt < fc.toInt := by
  rw [hz]
  have a := fo_g nm fc gn (fc.toInt.toNat + 1) 0 (-1) (by decide) (by rw [show (-1 : Int32).toInt = -1 by decide]; omega) h (by decide)
  exact ⟨a.1, a.2.2 (by omega) (by rw [oi_z]; omega)⟩
def f_Model_fact (nm : Int64) (vl : Int32) (fc : Int32) (gn : (Nat → Int64)) (gv : (Nat → Int64)) : Int64 × Int32 × Int32 × (Nat → Int64) × (Nat → Int64) := (lt_ (f_Model_factOf nm fc gn) fun z_1 => (lt_ (f_Model_isName nm) fun z_2 => (if z_2 = 0 then (0, 1, fc, gn, gv) else (lt_ (f_Model_in vl.toInt64 (-1000000000) 1000000000) fun z_5 => (if z_5 = 0 then (0, 1, fc, gn, gv) else (if 0 ≤ z_1 then (if 0 ≤ z_1 then (gv z_1.toNatClampNeg, 0, fc, gn, vp_updL gv z_1.toNatClampNeg vl.toInt64) else (1000000000000, 0, fc + 1, vp_updL gn fc.toNatClampNeg nm, vp_updL gv fc.toNatClampNeg vl.toInt64)) else (if fc = 40 then (0, 2, fc, gn, gv) else (if 0 ≤ z_1 then (gv z_1.toNatClampNeg, 0, fc, gn, vp_updL gv z_1.toNatClampNeg vl.toInt64) else (1000000000000, 0, fc + 1, vp_updL gn fc.toNatClampNeg nm, vp_updL gv fc.toNatClampNeg vl.toInt64)))))))))
abbrev q_Model_fact (dC : Nat → ClassId) (dI : Nat → Nat → Nat) (cB cI cJ : ClassId) (oM mT mN mD mF mS mL mR mE mK mV mO mA mB mU mW mX mY : Nat) (nm : Int64) (vl : Int32) (th : Int32) (ml : Int32) (ma : Int32) (mk : Int32) (mp : Int32) (mv : Int64) (mw : Int32) (dr : Int32) (dc : Int32) (ds : Int32) (ru : Int32) (cl : Int32) (os : Int32) (fc : Int32) (pi : Int32) (wh : Int32) (ms : Int64) (aq : Int32) (da : Int32) (lu : Int64) (ld : Int64) (qu : Int64) (qd : Int64) (gn : (Nat → Int64)) (gv : (Nat → Int64)) (A : Nat → Prop) : Array Value → State → Outcome → State → Prop := va_Ql (fun (r : Int64) (u : Int32 × Int32 × (Nat → Int64) × (Nat → Int64)) => r = (f_Model_fact nm vl fc gn gv).1 ∧ u = (f_Model_fact nm vl fc gn gv).2) (fun u t => va_P (dC, dI) vwCl [(oM, .inr (8, [.int u.1, .ref mT, .int ml, .int ma, .int mk, .int mp, .long mv, .int mw, .ref mN, .ref mD, .ref mF, .ref mS, .ref mL, .ref mR, .ref mE, .ref mK, .ref mV, .int dr, .int dc, .int ds, .int ru, .int cl, .ref mO, .int os, .int u.2.1, .ref mA, .ref mB, .ref mU, .ref mW, .int pi, .int wh, .long ms, .int aq, .int da, .ref mX, .ref mY, .long lu, .long ld, .long qu, .long qd])), (mA, .inl (cJ, 40, .inr (.inl u.2.2.1))), (mB, .inl (cJ, 40, .inr (.inl u.2.2.2)))] t.heap ∧ va_D A [(oM, .inr (8, [.int u.1, .ref mT, .int ml, .int ma, .int mk, .int mp, .long mv, .int mw, .ref mN, .ref mD, .ref mF, .ref mS, .ref mL, .ref mR, .ref mE, .ref mK, .ref mV, .int dr, .int dc, .int ds, .int ru, .int cl, .ref mO, .int os, .int u.2.1, .ref mA, .ref mB, .ref mU, .ref mW, .int pi, .int wh, .long ms, .int aq, .int da, .ref mX, .ref mY, .long lu, .long ld, .long qu, .long qd])), (mA, .inl (cJ, 40, .inr (.inl u.2.2.1))), (mB, .inl (cJ, 40, .inr (.inl u.2.2.2)))]) A
set_option maxHeartbeats 4000000 in
set_option maxRecDepth 100000 in
theorem c_Model_fact (l : Launch) (dC : Nat → ClassId) (dI : Nat → Nat → Nat) (cB cI cJ : ClassId) (oM mT mN mD mF mS mL mR mE mK mV mO mA mB mU mW mX mY : Nat) (sz : Nat) (nm : Int64) (vl : Int32) (th : Int32) (ml : Int32) (ma : Int32) (mk : Int32) (mp : Int32) (mv : Int64) (mw : Int32) (dr : Int32) (dc : Int32) (ds : Int32) (ru : Int32) (cl : Int32) (os : Int32) (fc : Int32) (pi : Int32) (wh : Int32) (ms : Int64) (aq : Int32) (da : Int32) (lu : Int64) (ld : Int64) (qu : Int64) (qd : Int64) (gn : (Nat → Int64)) (gv : (Nat → Int64)) (hf0 : 0 ≤ fc.toInt) (hf : fc.toInt ≤ 40) : Met l y_Model_fact (cw_Model_fact :: bgw) { frames := 2, cells := 0, slots := 0, locals := 49 } (va_Pc [.ref oM, .long nm, .int vl] (kb_B dC dI cB cI cJ [(oM, .inr (8, [.int th, .ref mT, .int ml, .int ma, .int mk, .int mp, .long mv, .int mw, .ref mN, .ref mD, .ref mF, .ref mS, .ref mL, .ref mR, .ref mE, .ref mK, .ref mV, .int dr, .int dc, .int ds, .int ru, .int cl, .ref mO, .int os, .int fc, .ref mA, .ref mB, .ref mU, .ref mW, .int pi, .int wh, .long ms, .int aq, .int da, .ref mX, .ref mY, .long lu, .long ld, .long qu, .long qd])), (mA, .inl (cJ, 40, .inr (.inl gn))), (mB, .inl (cJ, 40, .inr (.inl gv)))] sz)) (q_Model_fact dC dI cB cI cJ oM mT mN mD mF mS mL mR mE mK mV mO mA mB mU mW mX mY nm vl th ml ma mk mp mv mw dr dc ds ru cl os fc pi wh ms aq da lu ld qu qd gn gv (va_A [(oM, .inr (8, [.int th, .ref mT, .int ml, .int ma, .int mk, .int mp, .long mv, .int mw, .ref mN, .ref mD, .ref mF, .ref mS, .ref mL, .ref mR, .ref mE, .ref mK, .ref mV, .int dr, .int dc, .int ds, .int ru, .int cl, .ref mO, .int os, .int fc, .ref mA, .ref mB, .ref mU, .ref mW, .int pi, .int wh, .long ms, .int aq, .int da, .ref mX, .ref mY, .long lu, .long ld, .long qu, .long qd])), (mA, .inl (cJ, 40, .inr (.inl gn))), (mB, .inl (cJ, 40, .inr (.inl gv)))] sz)) 0 0 (va_A [(oM, .inr (8, [.int th, .ref mT, .int ml, .int ma, .int mk, .int mp, .long mv, .int mw, .ref mN, .ref mD, .ref mF, .ref mS, .ref mL, .ref mR, .ref mE, .ref mK, .ref mV, .int dr, .int dc, .int ds, .int ru, .int cl, .ref mO, .int os, .int fc, .ref mA, .ref mB, .ref mU, .ref mW, .int pi, .int wh, .long ms, .int aq, .int da, .ref mX, .ref mY, .long lu, .long ld, .long qu, .long qd])), (mA, .inl (cJ, 40, .inr (.inl gn))), (mB, .inl (cJ, 40, .inr (.inl gv)))] sz) := by
  refine Met.ofW (cc := prog_10_method_21_code) (maxL := 7) (ret := (some .long)) (by decide) rfl ?_
  intro p e s m args below meth c s₁ B hml hv
  obtain ⟨rfl, hsz, hP, hKx, hD0⟩ := hv
  have hx := B.exec
  have hb := B.bytes
  have hr := B.returns
  have hts := atoms_spec (ws := (cw_Model_fact :: bgw)) B.pre
  have hown : s.vm.findClass "PermitRulesModel" = some m.cls := findClass_of_methodNamed B.named
  have hlocks := B.notSynchronized
  have htb := fun (w : Cond) (h : w ∈ bgw) => hts w (List.mem_cons_of_mem _ h)
  have hK := hKx.1
  subst hsz
  have hD := hD0.self (sz := s.heap.size)
  generalize hAe : va_A [(oM, .inr (8, [.int th, .ref mT, .int ml, .int ma, .int mk, .int mp, .long mv, .int mw, .ref mN, .ref mD, .ref mF, .ref mS, .ref mL, .ref mR, .ref mE, .ref mK, .ref mV, .int dr, .int dc, .int ds, .int ru, .int cl, .ref mO, .int os, .int fc, .ref mA, .ref mB, .ref mU, .ref mW, .int pi, .int wh, .long ms, .int aq, .int da, .ref mX, .ref mY, .long lu, .long ld, .long qu, .long qd])), (mA, .inl (cJ, 40, .inr (.inl gn))), (mB, .inl (cJ, 40, .inr (.inl gv)))] s.heap.size = A at hD ⊢
  have hA : ∀ q : Nat, s.heap.size ≤ q → A q := fun q h => by rw [← hAe]; exact Or.inr h
  have hS : va_S A s.heap s.heap [] := va_S.rf
  have hl := lv_entry ([.ref oM, .long nm, .int vl]) (n := 7) (Nat.le_of_ble_eq_true rfl)
  rw [lg_entry_eq]
  generalize (lg_sl ([.ref oM, .long nm, .int vl]) ++ List.replicate (7 - (lg_sl ([.ref oM, .long nm, .int vl])).length) Slot.unset).toArray = ls at hl ⊢
  have hl : lv_has ls 7 [(0, .ref oM), (1, .long nm), (3, .int vl)] := hl
  have hP : va_P (dC, dI) vwCl [(oM, .inr (8, [.int th, .ref mT, .int ml, .int ma, .int mk, .int mp, .long mv, .int mw, .ref mN, .ref mD, .ref mF, .ref mS, .ref mL, .ref mR, .ref mE, .ref mK, .ref mV, .int dr, .int dc, .int ds, .int ru, .int cl, .ref mO, .int os, .int fc, .ref mA, .ref mB, .ref mU, .ref mW, .int pi, .int wh, .long ms, .int aq, .int da, .ref mX, .ref mY, .long lu, .long ld, .long qu, .long qd])), (mA, .inl (cJ, 40, .inr (.inl gn))), (mB, .inl (cJ, 40, .inr (.inl gv)))] s.heap := hP
  have hF : f_Model_fact nm vl fc gn gv = (lt_ (f_Model_factOf nm fc gn) fun z_1 => (lt_ (f_Model_isName nm) fun z_2 => (if z_2 = 0 then (0, 1, fc, gn, gv) else (lt_ (f_Model_in vl.toInt64 (-1000000000) 1000000000) fun z_5 => (if z_5 = 0 then (0, 1, fc, gn, gv) else (if 0 ≤ z_1 then (if 0 ≤ z_1 then (gv z_1.toNatClampNeg, 0, fc, gn, vp_updL gv z_1.toNatClampNeg vl.toInt64) else (1000000000000, 0, fc + 1, vp_updL gn fc.toNatClampNeg nm, vp_updL gv fc.toNatClampNeg vl.toInt64)) else (if fc = 40 then (0, 2, fc, gn, gv) else (if 0 ≤ z_1 then (gv z_1.toNatClampNeg, 0, fc, gn, vp_updL gv z_1.toNatClampNeg vl.toInt64) else (1000000000000, 0, fc + 1, vp_updL gn fc.toNatClampNeg nm, vp_updL gv fc.toNatClampNeg vl.toInt64))))))))) := rfl
  refine lv_aload_n hx hb d_Model_fact_0 rfl (lv_at hl 0 rfl) ?_
  refine lv_lload_n hx hb d_Model_fact_1 rfl (lv_at hl 1 rfl) ?_
  have hPc := hP.sub (ws' := [(oM, .inr (8, [.int th, .ref mT, .int ml, .int ma, .int mk, .int mp, .long mv, .int mw, .ref mN, .ref mD, .ref mF, .ref mS, .ref mL, .ref mR, .ref mE, .ref mK, .ref mV, .int dr, .int dc, .int ds, .int ru, .int cl, .ref mO, .int os, .int fc, .ref mA, .ref mB, .ref mU, .ref mW, .int pi, .int wh, .long ms, .int aq, .int da, .ref mX, .ref mY, .long lu, .long ld, .long qu, .long qd])), (mA, .inl (cJ, 40, .inr (.inl gn)))]) [0, 1] rfl
  have hDc := hD.sub (ws' := [(oM, .inr (8, [.int th, .ref mT, .int ml, .int ma, .int mk, .int mp, .long mv, .int mw, .ref mN, .ref mD, .ref mF, .ref mS, .ref mL, .ref mR, .ref mE, .ref mK, .ref mV, .int dr, .int dc, .int ds, .int ru, .int cl, .ref mO, .int os, .int fc, .ref mA, .ref mB, .ref mU, .ref mW, .int pi, .int wh, .long ms, .int aq, .int da, .ref mX, .ref mY, .long lu, .long ld, .long qu, .long qd])), (mA, .inl (cJ, 40, .inr (.inl gn)))]) [0, 1] (by decide) rfl
  have hFc := va_free (wc := [(oM, .inr (8, [.int th, .ref mT, .int ml, .int ma, .int mk, .int mp, .long mv, .int mw, .ref mN, .ref mD, .ref mF, .ref mS, .ref mL, .ref mR, .ref mE, .ref mK, .ref mV, .int dr, .int dc, .int ds, .int ru, .int cl, .ref mO, .int os, .int fc, .ref mA, .ref mB, .ref mU, .ref mW, .int pi, .int wh, .long ms, .int aq, .int da, .ref mX, .ref mY, .long lu, .long ld, .long qu, .long qd])), (mA, .inl (cJ, 40, .inr (.inl gn)))]) hD hS hA [0, 1] rfl
  refine va_calli (va_runV (As := [.long nm]) (rest := []) ⟨hx, hb, hml, hown, htb⟩ (c_Model_factOf l dC dI cB cI cJ oM mT mN mD mF mS mL mR mE mK mV mO mA mB mU mW mX mY _ nm th ml ma mk mp mv mw dr dc ds ru cl os fc pi wh ms aq da lu ld qu qd gn (by omega) (by omega)) ⟨callB_of 1 htb (gb_all mb_854) rfl rfl rfl (htb _ mb_9) (htb _ mb_851) (by decide +kernel) ⟨Nat.le_of_ble_eq_true rfl, Nat.le_of_ble_eq_true rfl⟩, htb _ mb_853, htb _ mp_26⟩ ⟨kb_blind, va_recv hK hPc (ci := 8) (q0 := 0) rfl rfl, kb_at hPc hDc hKx⟩ rfl rfl hl.1 rfl (lv_room (Nat.le_of_ble_eq_true rfl)) d_Model_fact_2 ⟨Nat.le_of_ble_eq_true rfl, Nat.le_of_ble_eq_true rfl⟩) hS (fun q _ h => hFc q h) hFc (fun z_1 u t H1 locs ht hvm hw hB hz1 hk1 hS => ?_)
  have hz_1 := hw
  have hF := hF.trans (lt_e hz_1)
  obtain ⟨hP1, hD1⟩ := hB
  rw [ht] at hP1
  obtain ⟨hP, hD⟩ := va_join (wr := [(mB, .inl (cJ, 40, .inr (.inl gv)))]) (w1 := [(oM, .inr (8, [.int th, .ref mT, .int ml, .int ma, .int mk, .int mp, .long mv, .int mw, .ref mN, .ref mD, .ref mF, .ref mS, .ref mL, .ref mR, .ref mE, .ref mK, .ref mV, .int dr, .int dc, .int ds, .int ru, .int cl, .ref mO, .int os, .int fc, .ref mA, .ref mB, .ref mU, .ref mW, .int pi, .int wh, .long ms, .int aq, .int da, .ref mX, .ref mY, .long lu, .long ld, .long qu, .long qd])), (mA, .inl (cJ, 40, .inr (.inl gn)))]) hP hD [0, 1] [2] rfl rfl (by decide) (by decide) hk1 hFc hP1 hD1
  generalize H1 = H at hP hS ⊢
  have hP : va_P (dC, dI) vwCl [(mB, .inl (cJ, 40, .inr (.inl gv))), (oM, .inr (8, [.int th, .ref mT, .int ml, .int ma, .int mk, .int mp, .long mv, .int mw, .ref mN, .ref mD, .ref mF, .ref mS, .ref mL, .ref mR, .ref mE, .ref mK, .ref mV, .int dr, .int dc, .int ds, .int ru, .int cl, .ref mO, .int os, .int fc, .ref mA, .ref mB, .ref mU, .ref mW, .int pi, .int wh, .long ms, .int aq, .int da, .ref mX, .ref mY, .long lu, .long ld, .long qu, .long qd])), (mA, .inl (cJ, 40, .inr (.inl gn)))] H := hP
  have hD : va_D A [(mB, .inl (cJ, 40, .inr (.inl gv))), (oM, .inr (8, [.int th, .ref mT, .int ml, .int ma, .int mk, .int mp, .long mv, .int mw, .ref mN, .ref mD, .ref mF, .ref mS, .ref mL, .ref mR, .ref mE, .ref mK, .ref mV, .int dr, .int dc, .int ds, .int ru, .int cl, .ref mO, .int os, .int fc, .ref mA, .ref mB, .ref mU, .ref mW, .int pi, .int wh, .long ms, .int aq, .int da, .ref mX, .ref mY, .long lu, .long ld, .long qu, .long qd])), (mA, .inl (cJ, 40, .inr (.inl gn)))] := hD
  have ez_1 := fo_b hz_1 (by omega)
  refine lv_istore (lv' := [(4, .int z_1), (0, .ref oM), (1, .long nm), (3, .int vl)]) hx hb d_Model_fact_5 hl (by decide) rfl (fun ls hl => ?_)
  refine lv_aload_n hx hb d_Model_fact_7 rfl (lv_at hl 1 rfl) ?_
  refine lv_lload_n hx hb d_Model_fact_8 rfl (lv_at hl 2 rfl) ?_
  have hPc := hP.sub (ws' := []) [] rfl
  have hDc := hD.sub (ws' := []) [] (by decide) rfl
  have hFc := va_free (wc := []) hD hS hA [] rfl
  refine va_calli (va_runS (As := [.long nm]) (rest := [.ref oM]) ⟨hx, hb, hml, hown, htb⟩ (c_Model_isName l dC dI cB cI cJ  _ nm ) ⟨callB_of 1 htb (gb_all mb_857) rfl rfl rfl (htb _ mb_9) (htb _ mb_855) (by decide +kernel) ⟨Nat.le_of_ble_eq_true rfl, Nat.le_of_ble_eq_true rfl⟩, htb _ mb_856⟩ ⟨kb_blind, kb_at hPc hDc hKx⟩ rfl rfl hl.1 rfl (lv_room (Nat.le_of_ble_eq_true rfl)) d_Model_fact_9 ⟨Nat.le_of_ble_eq_true rfl, Nat.le_of_ble_eq_true rfl⟩) hS (fun q _ h => hFc q h) hFc (fun z_2 u t H1 locs ht hvm hw hB hz1 hk1 hS => ?_)
  have hz_2 := hw
  have hF := hF.trans (lt_e hz_2)
  obtain ⟨hP1, hD1⟩ := hB
  rw [ht] at hP1
  obtain ⟨hP, hD⟩ := va_join (wr := [(mB, .inl (cJ, 40, .inr (.inl gv))), (oM, .inr (8, [.int th, .ref mT, .int ml, .int ma, .int mk, .int mp, .long mv, .int mw, .ref mN, .ref mD, .ref mF, .ref mS, .ref mL, .ref mR, .ref mE, .ref mK, .ref mV, .int dr, .int dc, .int ds, .int ru, .int cl, .ref mO, .int os, .int fc, .ref mA, .ref mB, .ref mU, .ref mW, .int pi, .int wh, .long ms, .int aq, .int da, .ref mX, .ref mY, .long lu, .long ld, .long qu, .long qd])), (mA, .inl (cJ, 40, .inr (.inl gn)))]) (w1 := []) hP hD [] [0, 1, 2] rfl rfl (by decide) (by decide) hk1 hFc hP1 hD1
  generalize H1 = H at hP hS ⊢
  have hP : va_P (dC, dI) vwCl [(mB, .inl (cJ, 40, .inr (.inl gv))), (oM, .inr (8, [.int th, .ref mT, .int ml, .int ma, .int mk, .int mp, .long mv, .int mw, .ref mN, .ref mD, .ref mF, .ref mS, .ref mL, .ref mR, .ref mE, .ref mK, .ref mV, .int dr, .int dc, .int ds, .int ru, .int cl, .ref mO, .int os, .int fc, .ref mA, .ref mB, .ref mU, .ref mW, .int pi, .int wh, .long ms, .int aq, .int da, .ref mX, .ref mY, .long lu, .long ld, .long qu, .long qd])), (mA, .inl (cJ, 40, .inr (.inl gn)))] H := hP
  have hD : va_D A [(mB, .inl (cJ, 40, .inr (.inl gv))), (oM, .inr (8, [.int th, .ref mT, .int ml, .int ma, .int mk, .int mp, .long mv, .int mw, .ref mN, .ref mD, .ref mF, .ref mS, .ref mL, .ref mR, .ref mE, .ref mK, .ref mV, .int dr, .int dc, .int ds, .int ru, .int cl, .ref mO, .int os, .int fc, .ref mA, .ref mB, .ref mU, .ref mW, .int pi, .int wh, .long ms, .int aq, .int da, .ref mX, .ref mY, .long lu, .long ld, .long qu, .long qd])), (mA, .inl (cJ, 40, .inr (.inl gn)))] := hD
  refine lv_if_eq (tgt := 29) hx hb d_Model_fact_12 (by decide) (fun c_3 => ?_) (fun c_3 => ?_)
  · have hF := hF.trans (if_pos c_3)
    have tc_3 := ti_eq (Eq.refl z_2.toInt) (show (0 : Int32).toInt = 0 by decide) c_3
    refine lv_iconst (v := 1) hx hb d_Model_fact_29 (by decide) ?_
    refine lv_goto (tgt := 52) hx hb d_Model_fact_30 (by decide) ?_
    refine va_put (D := (dC, dI)) (ci := 8) (v := .int 1) (ty := .int) (C := "PermitRulesModel") (T := T_Model) (N := 40) hx hb htb in_Model ty_Model to_Model nm_Model hown hK hP hD hS 1 rfl rfl 0 (by decide) (htb _ mb_653) (fun _ h9 => h9) rfl (by decide +kernel) rfl rfl (Nat.le_of_ble_eq_true rfl) d_Model_fact_52 (fun H locs hP hD hS => ?_)
    have hP : va_P (dC, dI) vwCl [(mB, .inl (cJ, 40, .inr (.inl gv))), (oM, .inr (8, [.int 1, .ref mT, .int ml, .int ma, .int mk, .int mp, .long mv, .int mw, .ref mN, .ref mD, .ref mF, .ref mS, .ref mL, .ref mR, .ref mE, .ref mK, .ref mV, .int dr, .int dc, .int ds, .int ru, .int cl, .ref mO, .int os, .int fc, .ref mA, .ref mB, .ref mU, .ref mW, .int pi, .int wh, .long ms, .int aq, .int da, .ref mX, .ref mY, .long lu, .long ld, .long qu, .long qd])), (mA, .inl (cJ, 40, .inr (.inl gn)))] H := hP
    have hD : va_D A [(mB, .inl (cJ, 40, .inr (.inl gv))), (oM, .inr (8, [.int 1, .ref mT, .int ml, .int ma, .int mk, .int mp, .long mv, .int mw, .ref mN, .ref mD, .ref mF, .ref mS, .ref mL, .ref mR, .ref mE, .ref mK, .ref mV, .int dr, .int dc, .int ds, .int ru, .int cl, .ref mO, .int os, .int fc, .ref mA, .ref mB, .ref mU, .ref mW, .int pi, .int wh, .long ms, .int aq, .int da, .ref mX, .ref mY, .long lu, .long ld, .long qu, .long qd])), (mA, .inl (cJ, 40, .inr (.inl gn)))] := hD
    refine lv_aload_n hx hb d_Model_fact_55 rfl (lv_at hl 1 rfl) ?_
    refine va_get (D := (dC, dI)) (ci := 8) (v := .int 1) (C := "PermitRulesModel") (T := T_Model) (N := 40) hx hb htb in_Model hown hK hP 1 rfl rfl 0 (by decide) (htb _ mb_653) (fun _ h9 => h9) rfl d_Model_fact_56 ?_
    refine lv_if_le (tgt := 64) hx hb d_Model_fact_59 (by decide) (fun c_4 => ?_) (fun c_4 => ?_)
    · exact absurd c_4 (by decide)
    · skip
      refine lv_lconst (v := 0) hx hb d_Model_fact_62 (by decide) ?_
      have hP9 := hP.sub (ws' := [(oM, .inr (8, [.int 1, .ref mT, .int ml, .int ma, .int mk, .int mp, .long mv, .int mw, .ref mN, .ref mD, .ref mF, .ref mS, .ref mL, .ref mR, .ref mE, .ref mK, .ref mV, .int dr, .int dc, .int ds, .int ru, .int cl, .ref mO, .int os, .int fc, .ref mA, .ref mB, .ref mU, .ref mW, .int pi, .int wh, .long ms, .int aq, .int da, .ref mX, .ref mY, .long lu, .long ld, .long qu, .long qd])), (mA, .inl (cJ, 40, .inr (.inl gn))), (mB, .inl (cJ, 40, .inr (.inl gv)))]) [1, 2, 0] rfl
      have hD9 := hD.sub (ws' := [(oM, .inr (8, [.int 1, .ref mT, .int ml, .int ma, .int mk, .int mp, .long mv, .int mw, .ref mN, .ref mD, .ref mF, .ref mS, .ref mL, .ref mR, .ref mE, .ref mK, .ref mV, .int dr, .int dc, .int ds, .int ru, .int cl, .ref mO, .int os, .int fc, .ref mA, .ref mB, .ref mU, .ref mW, .int pi, .int wh, .long ms, .int aq, .int da, .ref mX, .ref mY, .long lu, .long ld, .long qu, .long qd])), (mA, .inl (cJ, 40, .inr (.inl gn))), (mB, .inl (cJ, 40, .inr (.inl gv)))]) [1, 2, 0] (by decide) rfl
      exact W.lret (v := (0 : Int64)) hx hb hr (fun t ht hW => ⟨⟨(0 : Int64), (1, fc, gn, gv), rfl, ⟨by rw [hF], by rw [hF]⟩, by rw [ht]; exact hP9, hD9⟩, hS.F ht⟩) hS.2.2 d_Model_fact_63
  · have hF := hF.trans (if_neg c_3)
    have tc_3 := ti_ne (Eq.refl z_2.toInt) (show (0 : Int32).toInt = 0 by decide) c_3
    refine lv_iload_n hx hb d_Model_fact_15 rfl (lv_at hl 3 rfl) ?_
    refine lv_i2l (v := vl.toInt64) hx hb d_Model_fact_16 rfl ?_
    refine lv_ldc2 (v := (-1000000000)) hx hb hown (htb _ mb_858) d_Model_fact_17 ?_
    refine lv_ldc2 (v := 1000000000) hx hb hown (htb _ mb_859) d_Model_fact_20 ?_
    have hPc := hP.sub (ws' := []) [] rfl
    have hDc := hD.sub (ws' := []) [] (by decide) rfl
    have hFc := va_free (wc := []) hD hS hA [] rfl
    refine va_calli (va_runS (As := [.long vl.toInt64, .long (-1000000000), .long 1000000000]) (rest := [.ref oM]) ⟨hx, hb, hml, hown, htb⟩ (c_Model_in l dC dI cB cI cJ  _ vl.toInt64 (-1000000000) 1000000000 ) ⟨callB_of 3 htb (gb_all mb_787) rfl rfl rfl (htb _ mb_9) (htb _ mb_785) (by decide +kernel) ⟨Nat.le_of_ble_eq_true rfl, Nat.le_of_ble_eq_true rfl⟩, htb _ mb_786⟩ ⟨kb_blind, kb_at hPc hDc hKx⟩ rfl rfl hl.1 rfl (lv_room (Nat.le_of_ble_eq_true rfl)) d_Model_fact_23 ⟨Nat.le_of_ble_eq_true rfl, Nat.le_of_ble_eq_true rfl⟩) hS (fun q _ h => hFc q h) hFc (fun z_5 u t H1 locs ht hvm hw hB hz1 hk1 hS => ?_)
    have hz_5 := hw
    have hF := hF.trans (lt_e hz_5)
    obtain ⟨hP1, hD1⟩ := hB
    rw [ht] at hP1
    obtain ⟨hP, hD⟩ := va_join (wr := [(mB, .inl (cJ, 40, .inr (.inl gv))), (oM, .inr (8, [.int th, .ref mT, .int ml, .int ma, .int mk, .int mp, .long mv, .int mw, .ref mN, .ref mD, .ref mF, .ref mS, .ref mL, .ref mR, .ref mE, .ref mK, .ref mV, .int dr, .int dc, .int ds, .int ru, .int cl, .ref mO, .int os, .int fc, .ref mA, .ref mB, .ref mU, .ref mW, .int pi, .int wh, .long ms, .int aq, .int da, .ref mX, .ref mY, .long lu, .long ld, .long qu, .long qd])), (mA, .inl (cJ, 40, .inr (.inl gn)))]) (w1 := []) hP hD [] [0, 1, 2] rfl rfl (by decide) (by decide) hk1 hFc hP1 hD1
    generalize H1 = H at hP hS ⊢
    have hP : va_P (dC, dI) vwCl [(mB, .inl (cJ, 40, .inr (.inl gv))), (oM, .inr (8, [.int th, .ref mT, .int ml, .int ma, .int mk, .int mp, .long mv, .int mw, .ref mN, .ref mD, .ref mF, .ref mS, .ref mL, .ref mR, .ref mE, .ref mK, .ref mV, .int dr, .int dc, .int ds, .int ru, .int cl, .ref mO, .int os, .int fc, .ref mA, .ref mB, .ref mU, .ref mW, .int pi, .int wh, .long ms, .int aq, .int da, .ref mX, .ref mY, .long lu, .long ld, .long qu, .long qd])), (mA, .inl (cJ, 40, .inr (.inl gn)))] H := hP
    have hD : va_D A [(mB, .inl (cJ, 40, .inr (.inl gv))), (oM, .inr (8, [.int th, .ref mT, .int ml, .int ma, .int mk, .int mp, .long mv, .int mw, .ref mN, .ref mD, .ref mF, .ref mS, .ref mL, .ref mR, .ref mE, .ref mK, .ref mV, .int dr, .int dc, .int ds, .int ru, .int cl, .ref mO, .int os, .int fc, .ref mA, .ref mB, .ref mU, .ref mW, .int pi, .int wh, .long ms, .int aq, .int da, .ref mX, .ref mY, .long lu, .long ld, .long qu, .long qd])), (mA, .inl (cJ, 40, .inr (.inl gn)))] := hD
    refine lv_if_ne (tgt := 33) hx hb d_Model_fact_26 (by decide) (fun c_6 => ?_) (fun c_6 => ?_)
    · have hF := hF.trans (if_neg c_6)
      have tc_6 := ti_ne (Eq.refl z_5.toInt) (show (0 : Int32).toInt = 0 by decide) c_6
      refine lv_iload hx hb d_Model_fact_33 (lv_at hl 0 rfl) ?_
      refine lv_if_ge (tgt := 51) hx hb d_Model_fact_35 (by decide) (fun c_7 => ?_) (fun c_7 => ?_)
      · have hF := hF.trans (if_pos c_7)
        have tc_7 := ti_le (show (0 : Int32).toInt = 0 by decide) (Eq.refl z_1.toInt) c_7
        refine lv_iconst (v := 0) hx hb d_Model_fact_51 (by decide) ?_
        refine va_put (D := (dC, dI)) (ci := 8) (v := .int 0) (ty := .int) (C := "PermitRulesModel") (T := T_Model) (N := 40) hx hb htb in_Model ty_Model to_Model nm_Model hown hK hP hD hS 1 rfl rfl 0 (by decide) (htb _ mb_653) (fun _ h9 => h9) rfl (by decide +kernel) rfl rfl (Nat.le_of_ble_eq_true rfl) d_Model_fact_52 (fun H locs hP hD hS => ?_)
        have hP : va_P (dC, dI) vwCl [(mB, .inl (cJ, 40, .inr (.inl gv))), (oM, .inr (8, [.int 0, .ref mT, .int ml, .int ma, .int mk, .int mp, .long mv, .int mw, .ref mN, .ref mD, .ref mF, .ref mS, .ref mL, .ref mR, .ref mE, .ref mK, .ref mV, .int dr, .int dc, .int ds, .int ru, .int cl, .ref mO, .int os, .int fc, .ref mA, .ref mB, .ref mU, .ref mW, .int pi, .int wh, .long ms, .int aq, .int da, .ref mX, .ref mY, .long lu, .long ld, .long qu, .long qd])), (mA, .inl (cJ, 40, .inr (.inl gn)))] H := hP
        have hD : va_D A [(mB, .inl (cJ, 40, .inr (.inl gv))), (oM, .inr (8, [.int 0, .ref mT, .int ml, .int ma, .int mk, .int mp, .long mv, .int mw, .ref mN, .ref mD, .ref mF, .ref mS, .ref mL, .ref mR, .ref mE, .ref mK, .ref mV, .int dr, .int dc, .int ds, .int ru, .int cl, .ref mO, .int os, .int fc, .ref mA, .ref mB, .ref mU, .ref mW, .int pi, .int wh, .long ms, .int aq, .int da, .ref mX, .ref mY, .long lu, .long ld, .long qu, .long qd])), (mA, .inl (cJ, 40, .inr (.inl gn)))] := hD
        refine lv_aload_n hx hb d_Model_fact_55 rfl (lv_at hl 1 rfl) ?_
        refine va_get (D := (dC, dI)) (ci := 8) (v := .int 0) (C := "PermitRulesModel") (T := T_Model) (N := 40) hx hb htb in_Model hown hK hP 1 rfl rfl 0 (by decide) (htb _ mb_653) (fun _ h9 => h9) rfl d_Model_fact_56 ?_
        refine lv_if_le (tgt := 64) hx hb d_Model_fact_59 (by decide) (fun c_8 => ?_) (fun c_8 => ?_)
        · skip
          refine lv_iload hx hb d_Model_fact_64 (lv_at hl 0 rfl) ?_
          refine lv_if_ge (tgt := 104) hx hb d_Model_fact_66 (by decide) (fun c_9 => ?_) (fun c_9 => ?_)
          · have hF := hF.trans (if_pos c_9)
            have tc_9 := ti_le (show (0 : Int32).toInt = 0 by decide) (Eq.refl z_1.toInt) c_9
            refine lv_aload_n hx hb d_Model_fact_104 rfl (lv_at hl 1 rfl) ?_
            refine va_get (D := (dC, dI)) (ci := 8) (v := .ref mB) (C := "PermitRulesModel") (T := T_Model) (N := 40) hx hb htb in_Model hown hK hP 1 rfl rfl 26 (by decide) (htb _ mb_679) (fun _ h9 => h9) rfl d_Model_fact_105 ?_
            refine lv_iload hx hb d_Model_fact_108 (lv_at hl 0 rfl) ?_
            refine va_lald hx hb hK hP 0 2 rfl rfl (ib_in (Eq.refl z_1.toInt) (by omega) (by omega)) d_Model_fact_110 ?_
            refine lv_lstore (lv' := [(5, .long (gv z_1.toNatClampNeg)), (4, .int z_1), (0, .ref oM), (1, .long nm), (3, .int vl)]) hx hb d_Model_fact_111 hl (by decide) rfl (fun ls hl => ?_)
            refine lv_aload_n hx hb d_Model_fact_113 rfl (lv_at hl 2 rfl) ?_
            refine va_get (D := (dC, dI)) (ci := 8) (v := .ref mB) (C := "PermitRulesModel") (T := T_Model) (N := 40) hx hb htb in_Model hown hK hP 1 rfl rfl 26 (by decide) (htb _ mb_679) (fun _ h9 => h9) rfl d_Model_fact_114 ?_
            refine lv_iload hx hb d_Model_fact_117 (lv_at hl 1 rfl) ?_
            refine lv_iload_n hx hb d_Model_fact_119 rfl (lv_at hl 4 rfl) ?_
            refine lv_i2l (v := vl.toInt64) hx hb d_Model_fact_120 rfl ?_
            refine va_last hx hb hK hP hD hS 0 2 rfl rfl (ib_in (Eq.refl z_1.toInt) (by omega) (by omega)) d_Model_fact_121 (fun H locs hP hD hS => ?_)
            have hP : va_P (dC, dI) vwCl [(mB, .inl (cJ, 40, .inr (.inl (vp_updL gv z_1.toNatClampNeg vl.toInt64)))), (oM, .inr (8, [.int 0, .ref mT, .int ml, .int ma, .int mk, .int mp, .long mv, .int mw, .ref mN, .ref mD, .ref mF, .ref mS, .ref mL, .ref mR, .ref mE, .ref mK, .ref mV, .int dr, .int dc, .int ds, .int ru, .int cl, .ref mO, .int os, .int fc, .ref mA, .ref mB, .ref mU, .ref mW, .int pi, .int wh, .long ms, .int aq, .int da, .ref mX, .ref mY, .long lu, .long ld, .long qu, .long qd])), (mA, .inl (cJ, 40, .inr (.inl gn)))] H := hP
            have hD : va_D A [(mB, .inl (cJ, 40, .inr (.inl (vp_updL gv z_1.toNatClampNeg vl.toInt64)))), (oM, .inr (8, [.int 0, .ref mT, .int ml, .int ma, .int mk, .int mp, .long mv, .int mw, .ref mN, .ref mD, .ref mF, .ref mS, .ref mL, .ref mR, .ref mE, .ref mK, .ref mV, .int dr, .int dc, .int ds, .int ru, .int cl, .ref mO, .int os, .int fc, .ref mA, .ref mB, .ref mU, .ref mW, .int pi, .int wh, .long ms, .int aq, .int da, .ref mX, .ref mY, .long lu, .long ld, .long qu, .long qd])), (mA, .inl (cJ, 40, .inr (.inl gn)))] := hD
            refine lv_lload hx hb d_Model_fact_122 (lv_at hl 0 rfl) ?_
            have hP9 := hP.sub (ws' := [(oM, .inr (8, [.int 0, .ref mT, .int ml, .int ma, .int mk, .int mp, .long mv, .int mw, .ref mN, .ref mD, .ref mF, .ref mS, .ref mL, .ref mR, .ref mE, .ref mK, .ref mV, .int dr, .int dc, .int ds, .int ru, .int cl, .ref mO, .int os, .int fc, .ref mA, .ref mB, .ref mU, .ref mW, .int pi, .int wh, .long ms, .int aq, .int da, .ref mX, .ref mY, .long lu, .long ld, .long qu, .long qd])), (mA, .inl (cJ, 40, .inr (.inl gn))), (mB, .inl (cJ, 40, .inr (.inl (vp_updL gv z_1.toNatClampNeg vl.toInt64))))]) [1, 2, 0] rfl
            have hD9 := hD.sub (ws' := [(oM, .inr (8, [.int 0, .ref mT, .int ml, .int ma, .int mk, .int mp, .long mv, .int mw, .ref mN, .ref mD, .ref mF, .ref mS, .ref mL, .ref mR, .ref mE, .ref mK, .ref mV, .int dr, .int dc, .int ds, .int ru, .int cl, .ref mO, .int os, .int fc, .ref mA, .ref mB, .ref mU, .ref mW, .int pi, .int wh, .long ms, .int aq, .int da, .ref mX, .ref mY, .long lu, .long ld, .long qu, .long qd])), (mA, .inl (cJ, 40, .inr (.inl gn))), (mB, .inl (cJ, 40, .inr (.inl (vp_updL gv z_1.toNatClampNeg vl.toInt64))))]) [1, 2, 0] (by decide) rfl
            exact W.lret (v := gv z_1.toNatClampNeg) hx hb hr (fun t ht hW => ⟨⟨gv z_1.toNatClampNeg, (0, fc, gn, vp_updL gv z_1.toNatClampNeg vl.toInt64), rfl, ⟨by rw [hF], by rw [hF]⟩, by rw [ht]; exact hP9, hD9⟩, hS.F ht⟩) hS.2.2 d_Model_fact_124
          · have hF := hF.trans (if_neg c_9)
            have tc_9 := ti_nle (show (0 : Int32).toInt = 0 by decide) (Eq.refl z_1.toInt) c_9
            refine lv_aload_n hx hb d_Model_fact_69 rfl (lv_at hl 1 rfl) ?_
            refine va_get (D := (dC, dI)) (ci := 8) (v := .ref mA) (C := "PermitRulesModel") (T := T_Model) (N := 40) hx hb htb in_Model hown hK hP 1 rfl rfl 25 (by decide) (htb _ mb_678) (fun _ h9 => h9) rfl d_Model_fact_70 ?_
            refine lv_aload_n hx hb d_Model_fact_73 rfl (lv_at hl 1 rfl) ?_
            refine va_get (D := (dC, dI)) (ci := 8) (v := .int fc) (C := "PermitRulesModel") (T := T_Model) (N := 40) hx hb htb in_Model hown hK hP 1 rfl rfl 24 (by decide) (htb _ mb_677) (fun _ h9 => h9) rfl d_Model_fact_74 ?_
            refine lv_lload_n hx hb d_Model_fact_77 rfl (lv_at hl 2 rfl) ?_
            refine va_last hx hb hK hP hD hS 2 2 rfl rfl (ib_in (Eq.refl fc.toInt) (by omega) (by omega)) d_Model_fact_78 (fun H locs hP hD hS => ?_)
            have hP : va_P (dC, dI) vwCl [(mB, .inl (cJ, 40, .inr (.inl gv))), (oM, .inr (8, [.int 0, .ref mT, .int ml, .int ma, .int mk, .int mp, .long mv, .int mw, .ref mN, .ref mD, .ref mF, .ref mS, .ref mL, .ref mR, .ref mE, .ref mK, .ref mV, .int dr, .int dc, .int ds, .int ru, .int cl, .ref mO, .int os, .int fc, .ref mA, .ref mB, .ref mU, .ref mW, .int pi, .int wh, .long ms, .int aq, .int da, .ref mX, .ref mY, .long lu, .long ld, .long qu, .long qd])), (mA, .inl (cJ, 40, .inr (.inl (vp_updL gn fc.toNatClampNeg nm))))] H := hP
            have hD : va_D A [(mB, .inl (cJ, 40, .inr (.inl gv))), (oM, .inr (8, [.int 0, .ref mT, .int ml, .int ma, .int mk, .int mp, .long mv, .int mw, .ref mN, .ref mD, .ref mF, .ref mS, .ref mL, .ref mR, .ref mE, .ref mK, .ref mV, .int dr, .int dc, .int ds, .int ru, .int cl, .ref mO, .int os, .int fc, .ref mA, .ref mB, .ref mU, .ref mW, .int pi, .int wh, .long ms, .int aq, .int da, .ref mX, .ref mY, .long lu, .long ld, .long qu, .long qd])), (mA, .inl (cJ, 40, .inr (.inl (vp_updL gn fc.toNatClampNeg nm))))] := hD
            refine lv_aload_n hx hb d_Model_fact_79 rfl (lv_at hl 1 rfl) ?_
            refine va_get (D := (dC, dI)) (ci := 8) (v := .ref mB) (C := "PermitRulesModel") (T := T_Model) (N := 40) hx hb htb in_Model hown hK hP 1 rfl rfl 26 (by decide) (htb _ mb_679) (fun _ h9 => h9) rfl d_Model_fact_80 ?_
            refine lv_aload_n hx hb d_Model_fact_83 rfl (lv_at hl 1 rfl) ?_
            refine va_get (D := (dC, dI)) (ci := 8) (v := .int fc) (C := "PermitRulesModel") (T := T_Model) (N := 40) hx hb htb in_Model hown hK hP 1 rfl rfl 24 (by decide) (htb _ mb_677) (fun _ h9 => h9) rfl d_Model_fact_84 ?_
            refine lv_iload_n hx hb d_Model_fact_87 rfl (lv_at hl 3 rfl) ?_
            refine lv_i2l (v := vl.toInt64) hx hb d_Model_fact_88 rfl ?_
            refine va_last hx hb hK hP hD hS 0 2 rfl rfl (ib_in (Eq.refl fc.toInt) (by omega) (by omega)) d_Model_fact_89 (fun H locs hP hD hS => ?_)
            have hP : va_P (dC, dI) vwCl [(mB, .inl (cJ, 40, .inr (.inl (vp_updL gv fc.toNatClampNeg vl.toInt64)))), (oM, .inr (8, [.int 0, .ref mT, .int ml, .int ma, .int mk, .int mp, .long mv, .int mw, .ref mN, .ref mD, .ref mF, .ref mS, .ref mL, .ref mR, .ref mE, .ref mK, .ref mV, .int dr, .int dc, .int ds, .int ru, .int cl, .ref mO, .int os, .int fc, .ref mA, .ref mB, .ref mU, .ref mW, .int pi, .int wh, .long ms, .int aq, .int da, .ref mX, .ref mY, .long lu, .long ld, .long qu, .long qd])), (mA, .inl (cJ, 40, .inr (.inl (vp_updL gn fc.toNatClampNeg nm))))] H := hP
            have hD : va_D A [(mB, .inl (cJ, 40, .inr (.inl (vp_updL gv fc.toNatClampNeg vl.toInt64)))), (oM, .inr (8, [.int 0, .ref mT, .int ml, .int ma, .int mk, .int mp, .long mv, .int mw, .ref mN, .ref mD, .ref mF, .ref mS, .ref mL, .ref mR, .ref mE, .ref mK, .ref mV, .int dr, .int dc, .int ds, .int ru, .int cl, .ref mO, .int os, .int fc, .ref mA, .ref mB, .ref mU, .ref mW, .int pi, .int wh, .long ms, .int aq, .int da, .ref mX, .ref mY, .long lu, .long ld, .long qu, .long qd])), (mA, .inl (cJ, 40, .inr (.inl (vp_updL gn fc.toNatClampNeg nm))))] := hD
            refine lv_aload_n hx hb d_Model_fact_90 rfl (lv_at hl 1 rfl) ?_
            refine lv_dup hx hb d_Model_fact_91 rfl ?_
            refine va_get (D := (dC, dI)) (ci := 8) (v := .int fc) (C := "PermitRulesModel") (T := T_Model) (N := 40) hx hb htb in_Model hown hK hP 1 rfl rfl 24 (by decide) (htb _ mb_677) (fun _ h9 => h9) rfl d_Model_fact_92 ?_
            refine lv_iconst (v := 1) hx hb d_Model_fact_95 (by decide) ?_
            refine lv_iadd hx hb d_Model_fact_96 ?_
            refine va_put (D := (dC, dI)) (ci := 8) (v := .int (fc + 1)) (ty := .int) (C := "PermitRulesModel") (T := T_Model) (N := 40) hx hb htb in_Model ty_Model to_Model nm_Model hown hK hP hD hS 1 rfl rfl 24 (by decide) (htb _ mb_677) (fun _ h9 => h9) rfl (by decide +kernel) rfl rfl (Nat.le_of_ble_eq_true rfl) d_Model_fact_97 (fun H locs hP hD hS => ?_)
            have hP : va_P (dC, dI) vwCl [(mB, .inl (cJ, 40, .inr (.inl (vp_updL gv fc.toNatClampNeg vl.toInt64)))), (oM, .inr (8, [.int 0, .ref mT, .int ml, .int ma, .int mk, .int mp, .long mv, .int mw, .ref mN, .ref mD, .ref mF, .ref mS, .ref mL, .ref mR, .ref mE, .ref mK, .ref mV, .int dr, .int dc, .int ds, .int ru, .int cl, .ref mO, .int os, .int (fc + 1), .ref mA, .ref mB, .ref mU, .ref mW, .int pi, .int wh, .long ms, .int aq, .int da, .ref mX, .ref mY, .long lu, .long ld, .long qu, .long qd])), (mA, .inl (cJ, 40, .inr (.inl (vp_updL gn fc.toNatClampNeg nm))))] H := hP
            have hD : va_D A [(mB, .inl (cJ, 40, .inr (.inl (vp_updL gv fc.toNatClampNeg vl.toInt64)))), (oM, .inr (8, [.int 0, .ref mT, .int ml, .int ma, .int mk, .int mp, .long mv, .int mw, .ref mN, .ref mD, .ref mF, .ref mS, .ref mL, .ref mR, .ref mE, .ref mK, .ref mV, .int dr, .int dc, .int ds, .int ru, .int cl, .ref mO, .int os, .int (fc + 1), .ref mA, .ref mB, .ref mU, .ref mW, .int pi, .int wh, .long ms, .int aq, .int da, .ref mX, .ref mY, .long lu, .long ld, .long qu, .long qd])), (mA, .inl (cJ, 40, .inr (.inl (vp_updL gn fc.toNatClampNeg nm))))] := hD
            refine lv_ldc2 (v := 1000000000000) hx hb hown (htb _ mb_860) d_Model_fact_100 ?_
            have hP9 := hP.sub (ws' := [(oM, .inr (8, [.int 0, .ref mT, .int ml, .int ma, .int mk, .int mp, .long mv, .int mw, .ref mN, .ref mD, .ref mF, .ref mS, .ref mL, .ref mR, .ref mE, .ref mK, .ref mV, .int dr, .int dc, .int ds, .int ru, .int cl, .ref mO, .int os, .int (fc + 1), .ref mA, .ref mB, .ref mU, .ref mW, .int pi, .int wh, .long ms, .int aq, .int da, .ref mX, .ref mY, .long lu, .long ld, .long qu, .long qd])), (mA, .inl (cJ, 40, .inr (.inl (vp_updL gn fc.toNatClampNeg nm)))), (mB, .inl (cJ, 40, .inr (.inl (vp_updL gv fc.toNatClampNeg vl.toInt64))))]) [1, 2, 0] rfl
            have hD9 := hD.sub (ws' := [(oM, .inr (8, [.int 0, .ref mT, .int ml, .int ma, .int mk, .int mp, .long mv, .int mw, .ref mN, .ref mD, .ref mF, .ref mS, .ref mL, .ref mR, .ref mE, .ref mK, .ref mV, .int dr, .int dc, .int ds, .int ru, .int cl, .ref mO, .int os, .int (fc + 1), .ref mA, .ref mB, .ref mU, .ref mW, .int pi, .int wh, .long ms, .int aq, .int da, .ref mX, .ref mY, .long lu, .long ld, .long qu, .long qd])), (mA, .inl (cJ, 40, .inr (.inl (vp_updL gn fc.toNatClampNeg nm)))), (mB, .inl (cJ, 40, .inr (.inl (vp_updL gv fc.toNatClampNeg vl.toInt64))))]) [1, 2, 0] (by decide) rfl
            exact W.lret (v := (1000000000000 : Int64)) hx hb hr (fun t ht hW => ⟨⟨(1000000000000 : Int64), (0, fc + 1, vp_updL gn fc.toNatClampNeg nm, vp_updL gv fc.toNatClampNeg vl.toInt64), rfl, ⟨by rw [hF], by rw [hF]⟩, by rw [ht]; exact hP9, hD9⟩, hS.F ht⟩) hS.2.2 d_Model_fact_103
        · exact absurd (by decide) c_8
      · have hF := hF.trans (if_neg c_7)
        have tc_7 := ti_nle (show (0 : Int32).toInt = 0 by decide) (Eq.refl z_1.toInt) c_7
        refine lv_aload_n hx hb d_Model_fact_38 rfl (lv_at hl 1 rfl) ?_
        refine va_get (D := (dC, dI)) (ci := 8) (v := .int fc) (C := "PermitRulesModel") (T := T_Model) (N := 40) hx hb htb in_Model hown hK hP 1 rfl rfl 24 (by decide) (htb _ mb_677) (fun _ h9 => h9) rfl d_Model_fact_39 ?_
        refine lv_bipush (v := 40) hx hb d_Model_fact_42 (by decide) ?_
        refine lv_icmp_ne (tgt := 51) hx hb d_Model_fact_44 (by decide) (fun c_10 => ?_) (fun c_10 => ?_)
        · have hF := hF.trans (if_neg c_10)
          have tc_10 := ti_ne (Eq.refl fc.toInt) (show (40 : Int32).toInt = 40 by decide) c_10
          refine lv_iconst (v := 0) hx hb d_Model_fact_51 (by decide) ?_
          refine va_put (D := (dC, dI)) (ci := 8) (v := .int 0) (ty := .int) (C := "PermitRulesModel") (T := T_Model) (N := 40) hx hb htb in_Model ty_Model to_Model nm_Model hown hK hP hD hS 1 rfl rfl 0 (by decide) (htb _ mb_653) (fun _ h9 => h9) rfl (by decide +kernel) rfl rfl (Nat.le_of_ble_eq_true rfl) d_Model_fact_52 (fun H locs hP hD hS => ?_)
          have hP : va_P (dC, dI) vwCl [(mB, .inl (cJ, 40, .inr (.inl gv))), (oM, .inr (8, [.int 0, .ref mT, .int ml, .int ma, .int mk, .int mp, .long mv, .int mw, .ref mN, .ref mD, .ref mF, .ref mS, .ref mL, .ref mR, .ref mE, .ref mK, .ref mV, .int dr, .int dc, .int ds, .int ru, .int cl, .ref mO, .int os, .int fc, .ref mA, .ref mB, .ref mU, .ref mW, .int pi, .int wh, .long ms, .int aq, .int da, .ref mX, .ref mY, .long lu, .long ld, .long qu, .long qd])), (mA, .inl (cJ, 40, .inr (.inl gn)))] H := hP
          have hD : va_D A [(mB, .inl (cJ, 40, .inr (.inl gv))), (oM, .inr (8, [.int 0, .ref mT, .int ml, .int ma, .int mk, .int mp, .long mv, .int mw, .ref mN, .ref mD, .ref mF, .ref mS, .ref mL, .ref mR, .ref mE, .ref mK, .ref mV, .int dr, .int dc, .int ds, .int ru, .int cl, .ref mO, .int os, .int fc, .ref mA, .ref mB, .ref mU, .ref mW, .int pi, .int wh, .long ms, .int aq, .int da, .ref mX, .ref mY, .long lu, .long ld, .long qu, .long qd])), (mA, .inl (cJ, 40, .inr (.inl gn)))] := hD
          refine lv_aload_n hx hb d_Model_fact_55 rfl (lv_at hl 1 rfl) ?_
          refine va_get (D := (dC, dI)) (ci := 8) (v := .int 0) (C := "PermitRulesModel") (T := T_Model) (N := 40) hx hb htb in_Model hown hK hP 1 rfl rfl 0 (by decide) (htb _ mb_653) (fun _ h9 => h9) rfl d_Model_fact_56 ?_
          refine lv_if_le (tgt := 64) hx hb d_Model_fact_59 (by decide) (fun c_11 => ?_) (fun c_11 => ?_)
          · skip
            refine lv_iload hx hb d_Model_fact_64 (lv_at hl 0 rfl) ?_
            refine lv_if_ge (tgt := 104) hx hb d_Model_fact_66 (by decide) (fun c_12 => ?_) (fun c_12 => ?_)
            · have hF := hF.trans (if_pos c_12)
              have tc_12 := ti_le (show (0 : Int32).toInt = 0 by decide) (Eq.refl z_1.toInt) c_12
              refine lv_aload_n hx hb d_Model_fact_104 rfl (lv_at hl 1 rfl) ?_
              refine va_get (D := (dC, dI)) (ci := 8) (v := .ref mB) (C := "PermitRulesModel") (T := T_Model) (N := 40) hx hb htb in_Model hown hK hP 1 rfl rfl 26 (by decide) (htb _ mb_679) (fun _ h9 => h9) rfl d_Model_fact_105 ?_
              refine lv_iload hx hb d_Model_fact_108 (lv_at hl 0 rfl) ?_
              refine va_lald hx hb hK hP 0 2 rfl rfl (ib_in (Eq.refl z_1.toInt) (by omega) (by omega)) d_Model_fact_110 ?_
              refine lv_lstore (lv' := [(5, .long (gv z_1.toNatClampNeg)), (4, .int z_1), (0, .ref oM), (1, .long nm), (3, .int vl)]) hx hb d_Model_fact_111 hl (by decide) rfl (fun ls hl => ?_)
              refine lv_aload_n hx hb d_Model_fact_113 rfl (lv_at hl 2 rfl) ?_
              refine va_get (D := (dC, dI)) (ci := 8) (v := .ref mB) (C := "PermitRulesModel") (T := T_Model) (N := 40) hx hb htb in_Model hown hK hP 1 rfl rfl 26 (by decide) (htb _ mb_679) (fun _ h9 => h9) rfl d_Model_fact_114 ?_
              refine lv_iload hx hb d_Model_fact_117 (lv_at hl 1 rfl) ?_
              refine lv_iload_n hx hb d_Model_fact_119 rfl (lv_at hl 4 rfl) ?_
              refine lv_i2l (v := vl.toInt64) hx hb d_Model_fact_120 rfl ?_
              refine va_last hx hb hK hP hD hS 0 2 rfl rfl (ib_in (Eq.refl z_1.toInt) (by omega) (by omega)) d_Model_fact_121 (fun H locs hP hD hS => ?_)
              have hP : va_P (dC, dI) vwCl [(mB, .inl (cJ, 40, .inr (.inl (vp_updL gv z_1.toNatClampNeg vl.toInt64)))), (oM, .inr (8, [.int 0, .ref mT, .int ml, .int ma, .int mk, .int mp, .long mv, .int mw, .ref mN, .ref mD, .ref mF, .ref mS, .ref mL, .ref mR, .ref mE, .ref mK, .ref mV, .int dr, .int dc, .int ds, .int ru, .int cl, .ref mO, .int os, .int fc, .ref mA, .ref mB, .ref mU, .ref mW, .int pi, .int wh, .long ms, .int aq, .int da, .ref mX, .ref mY, .long lu, .long ld, .long qu, .long qd])), (mA, .inl (cJ, 40, .inr (.inl gn)))] H := hP
              have hD : va_D A [(mB, .inl (cJ, 40, .inr (.inl (vp_updL gv z_1.toNatClampNeg vl.toInt64)))), (oM, .inr (8, [.int 0, .ref mT, .int ml, .int ma, .int mk, .int mp, .long mv, .int mw, .ref mN, .ref mD, .ref mF, .ref mS, .ref mL, .ref mR, .ref mE, .ref mK, .ref mV, .int dr, .int dc, .int ds, .int ru, .int cl, .ref mO, .int os, .int fc, .ref mA, .ref mB, .ref mU, .ref mW, .int pi, .int wh, .long ms, .int aq, .int da, .ref mX, .ref mY, .long lu, .long ld, .long qu, .long qd])), (mA, .inl (cJ, 40, .inr (.inl gn)))] := hD
              refine lv_lload hx hb d_Model_fact_122 (lv_at hl 0 rfl) ?_
              have hP9 := hP.sub (ws' := [(oM, .inr (8, [.int 0, .ref mT, .int ml, .int ma, .int mk, .int mp, .long mv, .int mw, .ref mN, .ref mD, .ref mF, .ref mS, .ref mL, .ref mR, .ref mE, .ref mK, .ref mV, .int dr, .int dc, .int ds, .int ru, .int cl, .ref mO, .int os, .int fc, .ref mA, .ref mB, .ref mU, .ref mW, .int pi, .int wh, .long ms, .int aq, .int da, .ref mX, .ref mY, .long lu, .long ld, .long qu, .long qd])), (mA, .inl (cJ, 40, .inr (.inl gn))), (mB, .inl (cJ, 40, .inr (.inl (vp_updL gv z_1.toNatClampNeg vl.toInt64))))]) [1, 2, 0] rfl
              have hD9 := hD.sub (ws' := [(oM, .inr (8, [.int 0, .ref mT, .int ml, .int ma, .int mk, .int mp, .long mv, .int mw, .ref mN, .ref mD, .ref mF, .ref mS, .ref mL, .ref mR, .ref mE, .ref mK, .ref mV, .int dr, .int dc, .int ds, .int ru, .int cl, .ref mO, .int os, .int fc, .ref mA, .ref mB, .ref mU, .ref mW, .int pi, .int wh, .long ms, .int aq, .int da, .ref mX, .ref mY, .long lu, .long ld, .long qu, .long qd])), (mA, .inl (cJ, 40, .inr (.inl gn))), (mB, .inl (cJ, 40, .inr (.inl (vp_updL gv z_1.toNatClampNeg vl.toInt64))))]) [1, 2, 0] (by decide) rfl
              exact W.lret (v := gv z_1.toNatClampNeg) hx hb hr (fun t ht hW => ⟨⟨gv z_1.toNatClampNeg, (0, fc, gn, vp_updL gv z_1.toNatClampNeg vl.toInt64), rfl, ⟨by rw [hF], by rw [hF]⟩, by rw [ht]; exact hP9, hD9⟩, hS.F ht⟩) hS.2.2 d_Model_fact_124
            · have hF := hF.trans (if_neg c_12)
              have tc_12 := ti_nle (show (0 : Int32).toInt = 0 by decide) (Eq.refl z_1.toInt) c_12
              refine lv_aload_n hx hb d_Model_fact_69 rfl (lv_at hl 1 rfl) ?_
              refine va_get (D := (dC, dI)) (ci := 8) (v := .ref mA) (C := "PermitRulesModel") (T := T_Model) (N := 40) hx hb htb in_Model hown hK hP 1 rfl rfl 25 (by decide) (htb _ mb_678) (fun _ h9 => h9) rfl d_Model_fact_70 ?_
              refine lv_aload_n hx hb d_Model_fact_73 rfl (lv_at hl 1 rfl) ?_
              refine va_get (D := (dC, dI)) (ci := 8) (v := .int fc) (C := "PermitRulesModel") (T := T_Model) (N := 40) hx hb htb in_Model hown hK hP 1 rfl rfl 24 (by decide) (htb _ mb_677) (fun _ h9 => h9) rfl d_Model_fact_74 ?_
              refine lv_lload_n hx hb d_Model_fact_77 rfl (lv_at hl 2 rfl) ?_
              refine va_last hx hb hK hP hD hS 2 2 rfl rfl (ib_in (Eq.refl fc.toInt) (by omega) (by omega)) d_Model_fact_78 (fun H locs hP hD hS => ?_)
              have hP : va_P (dC, dI) vwCl [(mB, .inl (cJ, 40, .inr (.inl gv))), (oM, .inr (8, [.int 0, .ref mT, .int ml, .int ma, .int mk, .int mp, .long mv, .int mw, .ref mN, .ref mD, .ref mF, .ref mS, .ref mL, .ref mR, .ref mE, .ref mK, .ref mV, .int dr, .int dc, .int ds, .int ru, .int cl, .ref mO, .int os, .int fc, .ref mA, .ref mB, .ref mU, .ref mW, .int pi, .int wh, .long ms, .int aq, .int da, .ref mX, .ref mY, .long lu, .long ld, .long qu, .long qd])), (mA, .inl (cJ, 40, .inr (.inl (vp_updL gn fc.toNatClampNeg nm))))] H := hP
              have hD : va_D A [(mB, .inl (cJ, 40, .inr (.inl gv))), (oM, .inr (8, [.int 0, .ref mT, .int ml, .int ma, .int mk, .int mp, .long mv, .int mw, .ref mN, .ref mD, .ref mF, .ref mS, .ref mL, .ref mR, .ref mE, .ref mK, .ref mV, .int dr, .int dc, .int ds, .int ru, .int cl, .ref mO, .int os, .int fc, .ref mA, .ref mB, .ref mU, .ref mW, .int pi, .int wh, .long ms, .int aq, .int da, .ref mX, .ref mY, .long lu, .long ld, .long qu, .long qd])), (mA, .inl (cJ, 40, .inr (.inl (vp_updL gn fc.toNatClampNeg nm))))] := hD
              refine lv_aload_n hx hb d_Model_fact_79 rfl (lv_at hl 1 rfl) ?_
              refine va_get (D := (dC, dI)) (ci := 8) (v := .ref mB) (C := "PermitRulesModel") (T := T_Model) (N := 40) hx hb htb in_Model hown hK hP 1 rfl rfl 26 (by decide) (htb _ mb_679) (fun _ h9 => h9) rfl d_Model_fact_80 ?_
              refine lv_aload_n hx hb d_Model_fact_83 rfl (lv_at hl 1 rfl) ?_
              refine va_get (D := (dC, dI)) (ci := 8) (v := .int fc) (C := "PermitRulesModel") (T := T_Model) (N := 40) hx hb htb in_Model hown hK hP 1 rfl rfl 24 (by decide) (htb _ mb_677) (fun _ h9 => h9) rfl d_Model_fact_84 ?_
              refine lv_iload_n hx hb d_Model_fact_87 rfl (lv_at hl 3 rfl) ?_
              refine lv_i2l (v := vl.toInt64) hx hb d_Model_fact_88 rfl ?_
              refine va_last hx hb hK hP hD hS 0 2 rfl rfl (ib_in (Eq.refl fc.toInt) (by omega) (by omega)) d_Model_fact_89 (fun H locs hP hD hS => ?_)
              have hP : va_P (dC, dI) vwCl [(mB, .inl (cJ, 40, .inr (.inl (vp_updL gv fc.toNatClampNeg vl.toInt64)))), (oM, .inr (8, [.int 0, .ref mT, .int ml, .int ma, .int mk, .int mp, .long mv, .int mw, .ref mN, .ref mD, .ref mF, .ref mS, .ref mL, .ref mR, .ref mE, .ref mK, .ref mV, .int dr, .int dc, .int ds, .int ru, .int cl, .ref mO, .int os, .int fc, .ref mA, .ref mB, .ref mU, .ref mW, .int pi, .int wh, .long ms, .int aq, .int da, .ref mX, .ref mY, .long lu, .long ld, .long qu, .long qd])), (mA, .inl (cJ, 40, .inr (.inl (vp_updL gn fc.toNatClampNeg nm))))] H := hP
              have hD : va_D A [(mB, .inl (cJ, 40, .inr (.inl (vp_updL gv fc.toNatClampNeg vl.toInt64)))), (oM, .inr (8, [.int 0, .ref mT, .int ml, .int ma, .int mk, .int mp, .long mv, .int mw, .ref mN, .ref mD, .ref mF, .ref mS, .ref mL, .ref mR, .ref mE, .ref mK, .ref mV, .int dr, .int dc, .int ds, .int ru, .int cl, .ref mO, .int os, .int fc, .ref mA, .ref mB, .ref mU, .ref mW, .int pi, .int wh, .long ms, .int aq, .int da, .ref mX, .ref mY, .long lu, .long ld, .long qu, .long qd])), (mA, .inl (cJ, 40, .inr (.inl (vp_updL gn fc.toNatClampNeg nm))))] := hD
              refine lv_aload_n hx hb d_Model_fact_90 rfl (lv_at hl 1 rfl) ?_
              refine lv_dup hx hb d_Model_fact_91 rfl ?_
              refine va_get (D := (dC, dI)) (ci := 8) (v := .int fc) (C := "PermitRulesModel") (T := T_Model) (N := 40) hx hb htb in_Model hown hK hP 1 rfl rfl 24 (by decide) (htb _ mb_677) (fun _ h9 => h9) rfl d_Model_fact_92 ?_
              refine lv_iconst (v := 1) hx hb d_Model_fact_95 (by decide) ?_
              refine lv_iadd hx hb d_Model_fact_96 ?_
              refine va_put (D := (dC, dI)) (ci := 8) (v := .int (fc + 1)) (ty := .int) (C := "PermitRulesModel") (T := T_Model) (N := 40) hx hb htb in_Model ty_Model to_Model nm_Model hown hK hP hD hS 1 rfl rfl 24 (by decide) (htb _ mb_677) (fun _ h9 => h9) rfl (by decide +kernel) rfl rfl (Nat.le_of_ble_eq_true rfl) d_Model_fact_97 (fun H locs hP hD hS => ?_)
              have hP : va_P (dC, dI) vwCl [(mB, .inl (cJ, 40, .inr (.inl (vp_updL gv fc.toNatClampNeg vl.toInt64)))), (oM, .inr (8, [.int 0, .ref mT, .int ml, .int ma, .int mk, .int mp, .long mv, .int mw, .ref mN, .ref mD, .ref mF, .ref mS, .ref mL, .ref mR, .ref mE, .ref mK, .ref mV, .int dr, .int dc, .int ds, .int ru, .int cl, .ref mO, .int os, .int (fc + 1), .ref mA, .ref mB, .ref mU, .ref mW, .int pi, .int wh, .long ms, .int aq, .int da, .ref mX, .ref mY, .long lu, .long ld, .long qu, .long qd])), (mA, .inl (cJ, 40, .inr (.inl (vp_updL gn fc.toNatClampNeg nm))))] H := hP
              have hD : va_D A [(mB, .inl (cJ, 40, .inr (.inl (vp_updL gv fc.toNatClampNeg vl.toInt64)))), (oM, .inr (8, [.int 0, .ref mT, .int ml, .int ma, .int mk, .int mp, .long mv, .int mw, .ref mN, .ref mD, .ref mF, .ref mS, .ref mL, .ref mR, .ref mE, .ref mK, .ref mV, .int dr, .int dc, .int ds, .int ru, .int cl, .ref mO, .int os, .int (fc + 1), .ref mA, .ref mB, .ref mU, .ref mW, .int pi, .int wh, .long ms, .int aq, .int da, .ref mX, .ref mY, .long lu, .long ld, .long qu, .long qd])), (mA, .inl (cJ, 40, .inr (.inl (vp_updL gn fc.toNatClampNeg nm))))] := hD
              refine lv_ldc2 (v := 1000000000000) hx hb hown (htb _ mb_860) d_Model_fact_100 ?_
              have hP9 := hP.sub (ws' := [(oM, .inr (8, [.int 0, .ref mT, .int ml, .int ma, .int mk, .int mp, .long mv, .int mw, .ref mN, .ref mD, .ref mF, .ref mS, .ref mL, .ref mR, .ref mE, .ref mK, .ref mV, .int dr, .int dc, .int ds, .int ru, .int cl, .ref mO, .int os, .int (fc + 1), .ref mA, .ref mB, .ref mU, .ref mW, .int pi, .int wh, .long ms, .int aq, .int da, .ref mX, .ref mY, .long lu, .long ld, .long qu, .long qd])), (mA, .inl (cJ, 40, .inr (.inl (vp_updL gn fc.toNatClampNeg nm)))), (mB, .inl (cJ, 40, .inr (.inl (vp_updL gv fc.toNatClampNeg vl.toInt64))))]) [1, 2, 0] rfl
              have hD9 := hD.sub (ws' := [(oM, .inr (8, [.int 0, .ref mT, .int ml, .int ma, .int mk, .int mp, .long mv, .int mw, .ref mN, .ref mD, .ref mF, .ref mS, .ref mL, .ref mR, .ref mE, .ref mK, .ref mV, .int dr, .int dc, .int ds, .int ru, .int cl, .ref mO, .int os, .int (fc + 1), .ref mA, .ref mB, .ref mU, .ref mW, .int pi, .int wh, .long ms, .int aq, .int da, .ref mX, .ref mY, .long lu, .long ld, .long qu, .long qd])), (mA, .inl (cJ, 40, .inr (.inl (vp_updL gn fc.toNatClampNeg nm)))), (mB, .inl (cJ, 40, .inr (.inl (vp_updL gv fc.toNatClampNeg vl.toInt64))))]) [1, 2, 0] (by decide) rfl
              exact W.lret (v := (1000000000000 : Int64)) hx hb hr (fun t ht hW => ⟨⟨(1000000000000 : Int64), (0, fc + 1, vp_updL gn fc.toNatClampNeg nm, vp_updL gv fc.toNatClampNeg vl.toInt64), rfl, ⟨by rw [hF], by rw [hF]⟩, by rw [ht]; exact hP9, hD9⟩, hS.F ht⟩) hS.2.2 d_Model_fact_103
          · exact absurd (by decide) c_11
        · have hF := hF.trans (if_pos c_10)
          have tc_10 := ti_eq (Eq.refl fc.toInt) (show (40 : Int32).toInt = 40 by decide) c_10
          refine lv_iconst (v := 2) hx hb d_Model_fact_47 (by decide) ?_
          refine lv_goto (tgt := 52) hx hb d_Model_fact_48 (by decide) ?_
          refine va_put (D := (dC, dI)) (ci := 8) (v := .int 2) (ty := .int) (C := "PermitRulesModel") (T := T_Model) (N := 40) hx hb htb in_Model ty_Model to_Model nm_Model hown hK hP hD hS 1 rfl rfl 0 (by decide) (htb _ mb_653) (fun _ h9 => h9) rfl (by decide +kernel) rfl rfl (Nat.le_of_ble_eq_true rfl) d_Model_fact_52 (fun H locs hP hD hS => ?_)
          have hP : va_P (dC, dI) vwCl [(mB, .inl (cJ, 40, .inr (.inl gv))), (oM, .inr (8, [.int 2, .ref mT, .int ml, .int ma, .int mk, .int mp, .long mv, .int mw, .ref mN, .ref mD, .ref mF, .ref mS, .ref mL, .ref mR, .ref mE, .ref mK, .ref mV, .int dr, .int dc, .int ds, .int ru, .int cl, .ref mO, .int os, .int fc, .ref mA, .ref mB, .ref mU, .ref mW, .int pi, .int wh, .long ms, .int aq, .int da, .ref mX, .ref mY, .long lu, .long ld, .long qu, .long qd])), (mA, .inl (cJ, 40, .inr (.inl gn)))] H := hP
          have hD : va_D A [(mB, .inl (cJ, 40, .inr (.inl gv))), (oM, .inr (8, [.int 2, .ref mT, .int ml, .int ma, .int mk, .int mp, .long mv, .int mw, .ref mN, .ref mD, .ref mF, .ref mS, .ref mL, .ref mR, .ref mE, .ref mK, .ref mV, .int dr, .int dc, .int ds, .int ru, .int cl, .ref mO, .int os, .int fc, .ref mA, .ref mB, .ref mU, .ref mW, .int pi, .int wh, .long ms, .int aq, .int da, .ref mX, .ref mY, .long lu, .long ld, .long qu, .long qd])), (mA, .inl (cJ, 40, .inr (.inl gn)))] := hD
          refine lv_aload_n hx hb d_Model_fact_55 rfl (lv_at hl 1 rfl) ?_
          refine va_get (D := (dC, dI)) (ci := 8) (v := .int 2) (C := "PermitRulesModel") (T := T_Model) (N := 40) hx hb htb in_Model hown hK hP 1 rfl rfl 0 (by decide) (htb _ mb_653) (fun _ h9 => h9) rfl d_Model_fact_56 ?_
          refine lv_if_le (tgt := 64) hx hb d_Model_fact_59 (by decide) (fun c_13 => ?_) (fun c_13 => ?_)
          · exact absurd c_13 (by decide)
          · skip
            refine lv_lconst (v := 0) hx hb d_Model_fact_62 (by decide) ?_
            have hP9 := hP.sub (ws' := [(oM, .inr (8, [.int 2, .ref mT, .int ml, .int ma, .int mk, .int mp, .long mv, .int mw, .ref mN, .ref mD, .ref mF, .ref mS, .ref mL, .ref mR, .ref mE, .ref mK, .ref mV, .int dr, .int dc, .int ds, .int ru, .int cl, .ref mO, .int os, .int fc, .ref mA, .ref mB, .ref mU, .ref mW, .int pi, .int wh, .long ms, .int aq, .int da, .ref mX, .ref mY, .long lu, .long ld, .long qu, .long qd])), (mA, .inl (cJ, 40, .inr (.inl gn))), (mB, .inl (cJ, 40, .inr (.inl gv)))]) [1, 2, 0] rfl
            have hD9 := hD.sub (ws' := [(oM, .inr (8, [.int 2, .ref mT, .int ml, .int ma, .int mk, .int mp, .long mv, .int mw, .ref mN, .ref mD, .ref mF, .ref mS, .ref mL, .ref mR, .ref mE, .ref mK, .ref mV, .int dr, .int dc, .int ds, .int ru, .int cl, .ref mO, .int os, .int fc, .ref mA, .ref mB, .ref mU, .ref mW, .int pi, .int wh, .long ms, .int aq, .int da, .ref mX, .ref mY, .long lu, .long ld, .long qu, .long qd])), (mA, .inl (cJ, 40, .inr (.inl gn))), (mB, .inl (cJ, 40, .inr (.inl gv)))]) [1, 2, 0] (by decide) rfl
            exact W.lret (v := (0 : Int64)) hx hb hr (fun t ht hW => ⟨⟨(0 : Int64), (2, fc, gn, gv), rfl, ⟨by rw [hF], by rw [hF]⟩, by rw [ht]; exact hP9, hD9⟩, hS.F ht⟩) hS.2.2 d_Model_fact_63
    · have hF := hF.trans (if_pos c_6)
      have tc_6 := ti_eq (Eq.refl z_5.toInt) (show (0 : Int32).toInt = 0 by decide) c_6
      refine lv_iconst (v := 1) hx hb d_Model_fact_29 (by decide) ?_
      refine lv_goto (tgt := 52) hx hb d_Model_fact_30 (by decide) ?_
      refine va_put (D := (dC, dI)) (ci := 8) (v := .int 1) (ty := .int) (C := "PermitRulesModel") (T := T_Model) (N := 40) hx hb htb in_Model ty_Model to_Model nm_Model hown hK hP hD hS 1 rfl rfl 0 (by decide) (htb _ mb_653) (fun _ h9 => h9) rfl (by decide +kernel) rfl rfl (Nat.le_of_ble_eq_true rfl) d_Model_fact_52 (fun H locs hP hD hS => ?_)
      have hP : va_P (dC, dI) vwCl [(mB, .inl (cJ, 40, .inr (.inl gv))), (oM, .inr (8, [.int 1, .ref mT, .int ml, .int ma, .int mk, .int mp, .long mv, .int mw, .ref mN, .ref mD, .ref mF, .ref mS, .ref mL, .ref mR, .ref mE, .ref mK, .ref mV, .int dr, .int dc, .int ds, .int ru, .int cl, .ref mO, .int os, .int fc, .ref mA, .ref mB, .ref mU, .ref mW, .int pi, .int wh, .long ms, .int aq, .int da, .ref mX, .ref mY, .long lu, .long ld, .long qu, .long qd])), (mA, .inl (cJ, 40, .inr (.inl gn)))] H := hP
      have hD : va_D A [(mB, .inl (cJ, 40, .inr (.inl gv))), (oM, .inr (8, [.int 1, .ref mT, .int ml, .int ma, .int mk, .int mp, .long mv, .int mw, .ref mN, .ref mD, .ref mF, .ref mS, .ref mL, .ref mR, .ref mE, .ref mK, .ref mV, .int dr, .int dc, .int ds, .int ru, .int cl, .ref mO, .int os, .int fc, .ref mA, .ref mB, .ref mU, .ref mW, .int pi, .int wh, .long ms, .int aq, .int da, .ref mX, .ref mY, .long lu, .long ld, .long qu, .long qd])), (mA, .inl (cJ, 40, .inr (.inl gn)))] := hD
      refine lv_aload_n hx hb d_Model_fact_55 rfl (lv_at hl 1 rfl) ?_
      refine va_get (D := (dC, dI)) (ci := 8) (v := .int 1) (C := "PermitRulesModel") (T := T_Model) (N := 40) hx hb htb in_Model hown hK hP 1 rfl rfl 0 (by decide) (htb _ mb_653) (fun _ h9 => h9) rfl d_Model_fact_56 ?_
      refine lv_if_le (tgt := 64) hx hb d_Model_fact_59 (by decide) (fun c_14 => ?_) (fun c_14 => ?_)
      · exact absurd c_14 (by decide)
      · skip
        refine lv_lconst (v := 0) hx hb d_Model_fact_62 (by decide) ?_
        have hP9 := hP.sub (ws' := [(oM, .inr (8, [.int 1, .ref mT, .int ml, .int ma, .int mk, .int mp, .long mv, .int mw, .ref mN, .ref mD, .ref mF, .ref mS, .ref mL, .ref mR, .ref mE, .ref mK, .ref mV, .int dr, .int dc, .int ds, .int ru, .int cl, .ref mO, .int os, .int fc, .ref mA, .ref mB, .ref mU, .ref mW, .int pi, .int wh, .long ms, .int aq, .int da, .ref mX, .ref mY, .long lu, .long ld, .long qu, .long qd])), (mA, .inl (cJ, 40, .inr (.inl gn))), (mB, .inl (cJ, 40, .inr (.inl gv)))]) [1, 2, 0] rfl
        have hD9 := hD.sub (ws' := [(oM, .inr (8, [.int 1, .ref mT, .int ml, .int ma, .int mk, .int mp, .long mv, .int mw, .ref mN, .ref mD, .ref mF, .ref mS, .ref mL, .ref mR, .ref mE, .ref mK, .ref mV, .int dr, .int dc, .int ds, .int ru, .int cl, .ref mO, .int os, .int fc, .ref mA, .ref mB, .ref mU, .ref mW, .int pi, .int wh, .long ms, .int aq, .int da, .ref mX, .ref mY, .long lu, .long ld, .long qu, .long qd])), (mA, .inl (cJ, 40, .inr (.inl gn))), (mB, .inl (cJ, 40, .inr (.inl gv)))]) [1, 2, 0] (by decide) rfl
        exact W.lret (v := (0 : Int64)) hx hb hr (fun t ht hW => ⟨⟨(0 : Int64), (1, fc, gn, gv), rfl, ⟨by rw [hF], by rw [hF]⟩, by rw [ht]; exact hP9, hD9⟩, hS.F ht⟩) hS.2.2 d_Model_fact_63
def f_Model_forget (nm : Int64) (fc : Int32) (gn : (Nat → Int64)) (gv : (Nat → Int64)) : Int64 × Int32 × Int32 × (Nat → Int64) × (Nat → Int64) := (lt_ (f_Model_isName nm) fun z_1 => (if z_1 = 0 then (lt_ (f_Model_factOf nm fc gn) fun z_3 => (0, 1, fc, gn, gv)) else (lt_ (f_Model_factOf nm fc gn) fun z_6 => (if 0 ≤ z_6 then (gv z_6.toNatClampNeg, 0, fc - 1, vp_updL gn z_6.toNatClampNeg (gn (fc - 1).toNatClampNeg), vp_updL gv z_6.toNatClampNeg (gv (fc - 1).toNatClampNeg)) else (1000000000000, 0, fc, gn, gv)))))
abbrev q_Model_forget (dC : Nat → ClassId) (dI : Nat → Nat → Nat) (cB cI cJ : ClassId) (oM mT mN mD mF mS mL mR mE mK mV mO mA mB mU mW mX mY : Nat) (nm : Int64) (th : Int32) (ml : Int32) (ma : Int32) (mk : Int32) (mp : Int32) (mv : Int64) (mw : Int32) (dr : Int32) (dc : Int32) (ds : Int32) (ru : Int32) (cl : Int32) (os : Int32) (fc : Int32) (pi : Int32) (wh : Int32) (ms : Int64) (aq : Int32) (da : Int32) (lu : Int64) (ld : Int64) (qu : Int64) (qd : Int64) (gn : (Nat → Int64)) (gv : (Nat → Int64)) (A : Nat → Prop) : Array Value → State → Outcome → State → Prop := va_Ql (fun (r : Int64) (u : Int32 × Int32 × (Nat → Int64) × (Nat → Int64)) => r = (f_Model_forget nm fc gn gv).1 ∧ u = (f_Model_forget nm fc gn gv).2) (fun u t => va_P (dC, dI) vwCl [(oM, .inr (8, [.int u.1, .ref mT, .int ml, .int ma, .int mk, .int mp, .long mv, .int mw, .ref mN, .ref mD, .ref mF, .ref mS, .ref mL, .ref mR, .ref mE, .ref mK, .ref mV, .int dr, .int dc, .int ds, .int ru, .int cl, .ref mO, .int os, .int u.2.1, .ref mA, .ref mB, .ref mU, .ref mW, .int pi, .int wh, .long ms, .int aq, .int da, .ref mX, .ref mY, .long lu, .long ld, .long qu, .long qd])), (mA, .inl (cJ, 40, .inr (.inl u.2.2.1))), (mB, .inl (cJ, 40, .inr (.inl u.2.2.2)))] t.heap ∧ va_D A [(oM, .inr (8, [.int u.1, .ref mT, .int ml, .int ma, .int mk, .int mp, .long mv, .int mw, .ref mN, .ref mD, .ref mF, .ref mS, .ref mL, .ref mR, .ref mE, .ref mK, .ref mV, .int dr, .int dc, .int ds, .int ru, .int cl, .ref mO, .int os, .int u.2.1, .ref mA, .ref mB, .ref mU, .ref mW, .int pi, .int wh, .long ms, .int aq, .int da, .ref mX, .ref mY, .long lu, .long ld, .long qu, .long qd])), (mA, .inl (cJ, 40, .inr (.inl u.2.2.1))), (mB, .inl (cJ, 40, .inr (.inl u.2.2.2)))]) A
set_option maxHeartbeats 4000000 in
set_option maxRecDepth 100000 in
theorem c_Model_forget (l : Launch) (dC : Nat → ClassId) (dI : Nat → Nat → Nat) (cB cI cJ : ClassId) (oM mT mN mD mF mS mL mR mE mK mV mO mA mB mU mW mX mY : Nat) (sz : Nat) (nm : Int64) (th : Int32) (ml : Int32) (ma : Int32) (mk : Int32) (mp : Int32) (mv : Int64) (mw : Int32) (dr : Int32) (dc : Int32) (ds : Int32) (ru : Int32) (cl : Int32) (os : Int32) (fc : Int32) (pi : Int32) (wh : Int32) (ms : Int64) (aq : Int32) (da : Int32) (lu : Int64) (ld : Int64) (qu : Int64) (qd : Int64) (gn : (Nat → Int64)) (gv : (Nat → Int64)) (hf0 : 0 ≤ fc.toInt) (hf : fc.toInt ≤ 40) : Met l y_Model_forget (cw_Model_forget :: bgw) { frames := 2, cells := 0, slots := 0, locals := 49 } (va_Pc [.ref oM, .long nm] (kb_B dC dI cB cI cJ [(oM, .inr (8, [.int th, .ref mT, .int ml, .int ma, .int mk, .int mp, .long mv, .int mw, .ref mN, .ref mD, .ref mF, .ref mS, .ref mL, .ref mR, .ref mE, .ref mK, .ref mV, .int dr, .int dc, .int ds, .int ru, .int cl, .ref mO, .int os, .int fc, .ref mA, .ref mB, .ref mU, .ref mW, .int pi, .int wh, .long ms, .int aq, .int da, .ref mX, .ref mY, .long lu, .long ld, .long qu, .long qd])), (mA, .inl (cJ, 40, .inr (.inl gn))), (mB, .inl (cJ, 40, .inr (.inl gv)))] sz)) (q_Model_forget dC dI cB cI cJ oM mT mN mD mF mS mL mR mE mK mV mO mA mB mU mW mX mY nm th ml ma mk mp mv mw dr dc ds ru cl os fc pi wh ms aq da lu ld qu qd gn gv (va_A [(oM, .inr (8, [.int th, .ref mT, .int ml, .int ma, .int mk, .int mp, .long mv, .int mw, .ref mN, .ref mD, .ref mF, .ref mS, .ref mL, .ref mR, .ref mE, .ref mK, .ref mV, .int dr, .int dc, .int ds, .int ru, .int cl, .ref mO, .int os, .int fc, .ref mA, .ref mB, .ref mU, .ref mW, .int pi, .int wh, .long ms, .int aq, .int da, .ref mX, .ref mY, .long lu, .long ld, .long qu, .long qd])), (mA, .inl (cJ, 40, .inr (.inl gn))), (mB, .inl (cJ, 40, .inr (.inl gv)))] sz)) 0 0 (va_A [(oM, .inr (8, [.int th, .ref mT, .int ml, .int ma, .int mk, .int mp, .long mv, .int mw, .ref mN, .ref mD, .ref mF, .ref mS, .ref mL, .ref mR, .ref mE, .ref mK, .ref mV, .int dr, .int dc, .int ds, .int ru, .int cl, .ref mO, .int os, .int fc, .ref mA, .ref mB, .ref mU, .ref mW, .int pi, .int wh, .long ms, .int aq, .int da, .ref mX, .ref mY, .long lu, .long ld, .long qu, .long qd])), (mA, .inl (cJ, 40, .inr (.inl gn))), (mB, .inl (cJ, 40, .inr (.inl gv)))] sz) := by
  refine Met.ofW (cc := prog_10_method_22_code) (maxL := 6) (ret := (some .long)) (by decide) rfl ?_
  intro p e s m args below meth c s₁ B hml hv
  obtain ⟨rfl, hsz, hP, hKx, hD0⟩ := hv
  have hx := B.exec
  have hb := B.bytes
  have hr := B.returns
  have hts := atoms_spec (ws := (cw_Model_forget :: bgw)) B.pre
  have hown : s.vm.findClass "PermitRulesModel" = some m.cls := findClass_of_methodNamed B.named
  have hlocks := B.notSynchronized
  have htb := fun (w : Cond) (h : w ∈ bgw) => hts w (List.mem_cons_of_mem _ h)
  have hK := hKx.1
  subst hsz
  have hD := hD0.self (sz := s.heap.size)
  generalize hAe : va_A [(oM, .inr (8, [.int th, .ref mT, .int ml, .int ma, .int mk, .int mp, .long mv, .int mw, .ref mN, .ref mD, .ref mF, .ref mS, .ref mL, .ref mR, .ref mE, .ref mK, .ref mV, .int dr, .int dc, .int ds, .int ru, .int cl, .ref mO, .int os, .int fc, .ref mA, .ref mB, .ref mU, .ref mW, .int pi, .int wh, .long ms, .int aq, .int da, .ref mX, .ref mY, .long lu, .long ld, .long qu, .long qd])), (mA, .inl (cJ, 40, .inr (.inl gn))), (mB, .inl (cJ, 40, .inr (.inl gv)))] s.heap.size = A at hD ⊢
  have hA : ∀ q : Nat, s.heap.size ≤ q → A q := fun q h => by rw [← hAe]; exact Or.inr h
  have hS : va_S A s.heap s.heap [] := va_S.rf
  have hl := lv_entry ([.ref oM, .long nm]) (n := 6) (Nat.le_of_ble_eq_true rfl)
  rw [lg_entry_eq]
  generalize (lg_sl ([.ref oM, .long nm]) ++ List.replicate (6 - (lg_sl ([.ref oM, .long nm])).length) Slot.unset).toArray = ls at hl ⊢
  have hl : lv_has ls 6 [(0, .ref oM), (1, .long nm)] := hl
  have hP : va_P (dC, dI) vwCl [(oM, .inr (8, [.int th, .ref mT, .int ml, .int ma, .int mk, .int mp, .long mv, .int mw, .ref mN, .ref mD, .ref mF, .ref mS, .ref mL, .ref mR, .ref mE, .ref mK, .ref mV, .int dr, .int dc, .int ds, .int ru, .int cl, .ref mO, .int os, .int fc, .ref mA, .ref mB, .ref mU, .ref mW, .int pi, .int wh, .long ms, .int aq, .int da, .ref mX, .ref mY, .long lu, .long ld, .long qu, .long qd])), (mA, .inl (cJ, 40, .inr (.inl gn))), (mB, .inl (cJ, 40, .inr (.inl gv)))] s.heap := hP
  have hF : f_Model_forget nm fc gn gv = (lt_ (f_Model_isName nm) fun z_1 => (if z_1 = 0 then (lt_ (f_Model_factOf nm fc gn) fun z_3 => (0, 1, fc, gn, gv)) else (lt_ (f_Model_factOf nm fc gn) fun z_6 => (if 0 ≤ z_6 then (gv z_6.toNatClampNeg, 0, fc - 1, vp_updL gn z_6.toNatClampNeg (gn (fc - 1).toNatClampNeg), vp_updL gv z_6.toNatClampNeg (gv (fc - 1).toNatClampNeg)) else (1000000000000, 0, fc, gn, gv))))) := rfl
  refine lv_aload_n hx hb d_Model_forget_0 rfl (lv_at hl 0 rfl) ?_
  refine lv_lload_n hx hb d_Model_forget_1 rfl (lv_at hl 1 rfl) ?_
  have hPc := hP.sub (ws' := []) [] rfl
  have hDc := hD.sub (ws' := []) [] (by decide) rfl
  have hFc := va_free (wc := []) hD hS hA [] rfl
  refine va_calli (va_runS (As := [.long nm]) (rest := [.ref oM]) ⟨hx, hb, hml, hown, htb⟩ (c_Model_isName l dC dI cB cI cJ  _ nm ) ⟨callB_of 1 htb (gb_all mb_857) rfl rfl rfl (htb _ mb_9) (htb _ mb_855) (by decide +kernel) ⟨Nat.le_of_ble_eq_true rfl, Nat.le_of_ble_eq_true rfl⟩, htb _ mb_856⟩ ⟨kb_blind, kb_at hPc hDc hKx⟩ rfl rfl hl.1 rfl (lv_room (Nat.le_of_ble_eq_true rfl)) d_Model_forget_2 ⟨Nat.le_of_ble_eq_true rfl, Nat.le_of_ble_eq_true rfl⟩) hS (fun q _ h => hFc q h) hFc (fun z_1 u t H1 locs ht hvm hw hB hz1 hk1 hS => ?_)
  have hz_1 := hw
  have hF := hF.trans (lt_e hz_1)
  obtain ⟨hP1, hD1⟩ := hB
  rw [ht] at hP1
  obtain ⟨hP, hD⟩ := va_join (wr := [(oM, .inr (8, [.int th, .ref mT, .int ml, .int ma, .int mk, .int mp, .long mv, .int mw, .ref mN, .ref mD, .ref mF, .ref mS, .ref mL, .ref mR, .ref mE, .ref mK, .ref mV, .int dr, .int dc, .int ds, .int ru, .int cl, .ref mO, .int os, .int fc, .ref mA, .ref mB, .ref mU, .ref mW, .int pi, .int wh, .long ms, .int aq, .int da, .ref mX, .ref mY, .long lu, .long ld, .long qu, .long qd])), (mA, .inl (cJ, 40, .inr (.inl gn))), (mB, .inl (cJ, 40, .inr (.inl gv)))]) (w1 := []) hP hD [] [0, 1, 2] rfl rfl (by decide) (by decide) hk1 hFc hP1 hD1
  generalize H1 = H at hP hS ⊢
  have hP : va_P (dC, dI) vwCl [(oM, .inr (8, [.int th, .ref mT, .int ml, .int ma, .int mk, .int mp, .long mv, .int mw, .ref mN, .ref mD, .ref mF, .ref mS, .ref mL, .ref mR, .ref mE, .ref mK, .ref mV, .int dr, .int dc, .int ds, .int ru, .int cl, .ref mO, .int os, .int fc, .ref mA, .ref mB, .ref mU, .ref mW, .int pi, .int wh, .long ms, .int aq, .int da, .ref mX, .ref mY, .long lu, .long ld, .long qu, .long qd])), (mA, .inl (cJ, 40, .inr (.inl gn))), (mB, .inl (cJ, 40, .inr (.inl gv)))] H := hP
  have hD : va_D A [(oM, .inr (8, [.int th, .ref mT, .int ml, .int ma, .int mk, .int mp, .long mv, .int mw, .ref mN, .ref mD, .ref mF, .ref mS, .ref mL, .ref mR, .ref mE, .ref mK, .ref mV, .int dr, .int dc, .int ds, .int ru, .int cl, .ref mO, .int os, .int fc, .ref mA, .ref mB, .ref mU, .ref mW, .int pi, .int wh, .long ms, .int aq, .int da, .ref mX, .ref mY, .long lu, .long ld, .long qu, .long qd])), (mA, .inl (cJ, 40, .inr (.inl gn))), (mB, .inl (cJ, 40, .inr (.inl gv)))] := hD
  refine lv_if_eq (tgt := 12) hx hb d_Model_forget_5 (by decide) (fun c_2 => ?_) (fun c_2 => ?_)
  · have hF := hF.trans (if_pos c_2)
    have tc_2 := ti_eq (Eq.refl z_1.toInt) (show (0 : Int32).toInt = 0 by decide) c_2
    refine lv_iconst (v := 1) hx hb d_Model_forget_12 (by decide) ?_
    refine va_put (D := (dC, dI)) (ci := 8) (v := .int 1) (ty := .int) (C := "PermitRulesModel") (T := T_Model) (N := 40) hx hb htb in_Model ty_Model to_Model nm_Model hown hK hP hD hS 0 rfl rfl 0 (by decide) (htb _ mb_653) (fun _ h9 => h9) rfl (by decide +kernel) rfl rfl (Nat.le_of_ble_eq_true rfl) d_Model_forget_13 (fun H locs hP hD hS => ?_)
    have hP : va_P (dC, dI) vwCl [(oM, .inr (8, [.int 1, .ref mT, .int ml, .int ma, .int mk, .int mp, .long mv, .int mw, .ref mN, .ref mD, .ref mF, .ref mS, .ref mL, .ref mR, .ref mE, .ref mK, .ref mV, .int dr, .int dc, .int ds, .int ru, .int cl, .ref mO, .int os, .int fc, .ref mA, .ref mB, .ref mU, .ref mW, .int pi, .int wh, .long ms, .int aq, .int da, .ref mX, .ref mY, .long lu, .long ld, .long qu, .long qd])), (mA, .inl (cJ, 40, .inr (.inl gn))), (mB, .inl (cJ, 40, .inr (.inl gv)))] H := hP
    have hD : va_D A [(oM, .inr (8, [.int 1, .ref mT, .int ml, .int ma, .int mk, .int mp, .long mv, .int mw, .ref mN, .ref mD, .ref mF, .ref mS, .ref mL, .ref mR, .ref mE, .ref mK, .ref mV, .int dr, .int dc, .int ds, .int ru, .int cl, .ref mO, .int os, .int fc, .ref mA, .ref mB, .ref mU, .ref mW, .int pi, .int wh, .long ms, .int aq, .int da, .ref mX, .ref mY, .long lu, .long ld, .long qu, .long qd])), (mA, .inl (cJ, 40, .inr (.inl gn))), (mB, .inl (cJ, 40, .inr (.inl gv)))] := hD
    refine lv_aload_n hx hb d_Model_forget_16 rfl (lv_at hl 0 rfl) ?_
    refine lv_lload_n hx hb d_Model_forget_17 rfl (lv_at hl 1 rfl) ?_
    have hPc := hP.sub (ws' := [(oM, .inr (8, [.int 1, .ref mT, .int ml, .int ma, .int mk, .int mp, .long mv, .int mw, .ref mN, .ref mD, .ref mF, .ref mS, .ref mL, .ref mR, .ref mE, .ref mK, .ref mV, .int dr, .int dc, .int ds, .int ru, .int cl, .ref mO, .int os, .int fc, .ref mA, .ref mB, .ref mU, .ref mW, .int pi, .int wh, .long ms, .int aq, .int da, .ref mX, .ref mY, .long lu, .long ld, .long qu, .long qd])), (mA, .inl (cJ, 40, .inr (.inl gn)))]) [0, 1] rfl
    have hDc := hD.sub (ws' := [(oM, .inr (8, [.int 1, .ref mT, .int ml, .int ma, .int mk, .int mp, .long mv, .int mw, .ref mN, .ref mD, .ref mF, .ref mS, .ref mL, .ref mR, .ref mE, .ref mK, .ref mV, .int dr, .int dc, .int ds, .int ru, .int cl, .ref mO, .int os, .int fc, .ref mA, .ref mB, .ref mU, .ref mW, .int pi, .int wh, .long ms, .int aq, .int da, .ref mX, .ref mY, .long lu, .long ld, .long qu, .long qd])), (mA, .inl (cJ, 40, .inr (.inl gn)))]) [0, 1] (by decide) rfl
    have hFc := va_free (wc := [(oM, .inr (8, [.int 1, .ref mT, .int ml, .int ma, .int mk, .int mp, .long mv, .int mw, .ref mN, .ref mD, .ref mF, .ref mS, .ref mL, .ref mR, .ref mE, .ref mK, .ref mV, .int dr, .int dc, .int ds, .int ru, .int cl, .ref mO, .int os, .int fc, .ref mA, .ref mB, .ref mU, .ref mW, .int pi, .int wh, .long ms, .int aq, .int da, .ref mX, .ref mY, .long lu, .long ld, .long qu, .long qd])), (mA, .inl (cJ, 40, .inr (.inl gn)))]) hD hS hA [0, 1] rfl
    refine va_calli (va_runV (As := [.long nm]) (rest := []) ⟨hx, hb, hml, hown, htb⟩ (c_Model_factOf l dC dI cB cI cJ oM mT mN mD mF mS mL mR mE mK mV mO mA mB mU mW mX mY _ nm 1 ml ma mk mp mv mw dr dc ds ru cl os fc pi wh ms aq da lu ld qu qd gn (by omega) (by omega)) ⟨callB_of 1 htb (gb_all mb_854) rfl rfl rfl (htb _ mb_9) (htb _ mb_851) (by decide +kernel) ⟨Nat.le_of_ble_eq_true rfl, Nat.le_of_ble_eq_true rfl⟩, htb _ mb_853, htb _ mp_26⟩ ⟨kb_blind, va_recv hK hPc (ci := 8) (q0 := 0) rfl rfl, kb_at hPc hDc hKx⟩ rfl rfl hl.1 rfl (lv_room (Nat.le_of_ble_eq_true rfl)) d_Model_forget_18 ⟨Nat.le_of_ble_eq_true rfl, Nat.le_of_ble_eq_true rfl⟩) hS (fun q _ h => hFc q h) hFc (fun z_3 u t H1 locs ht hvm hw hB hz1 hk1 hS => ?_)
    have hz_3 := hw
    have hF := hF.trans (lt_e hz_3)
    obtain ⟨hP1, hD1⟩ := hB
    rw [ht] at hP1
    obtain ⟨hP, hD⟩ := va_join (wr := [(mB, .inl (cJ, 40, .inr (.inl gv)))]) (w1 := [(oM, .inr (8, [.int 1, .ref mT, .int ml, .int ma, .int mk, .int mp, .long mv, .int mw, .ref mN, .ref mD, .ref mF, .ref mS, .ref mL, .ref mR, .ref mE, .ref mK, .ref mV, .int dr, .int dc, .int ds, .int ru, .int cl, .ref mO, .int os, .int fc, .ref mA, .ref mB, .ref mU, .ref mW, .int pi, .int wh, .long ms, .int aq, .int da, .ref mX, .ref mY, .long lu, .long ld, .long qu, .long qd])), (mA, .inl (cJ, 40, .inr (.inl gn)))]) hP hD [0, 1] [2] rfl rfl (by decide) (by decide) hk1 hFc hP1 hD1
    generalize H1 = H at hP hS ⊢
    have hP : va_P (dC, dI) vwCl [(mB, .inl (cJ, 40, .inr (.inl gv))), (oM, .inr (8, [.int 1, .ref mT, .int ml, .int ma, .int mk, .int mp, .long mv, .int mw, .ref mN, .ref mD, .ref mF, .ref mS, .ref mL, .ref mR, .ref mE, .ref mK, .ref mV, .int dr, .int dc, .int ds, .int ru, .int cl, .ref mO, .int os, .int fc, .ref mA, .ref mB, .ref mU, .ref mW, .int pi, .int wh, .long ms, .int aq, .int da, .ref mX, .ref mY, .long lu, .long ld, .long qu, .long qd])), (mA, .inl (cJ, 40, .inr (.inl gn)))] H := hP
    have hD : va_D A [(mB, .inl (cJ, 40, .inr (.inl gv))), (oM, .inr (8, [.int 1, .ref mT, .int ml, .int ma, .int mk, .int mp, .long mv, .int mw, .ref mN, .ref mD, .ref mF, .ref mS, .ref mL, .ref mR, .ref mE, .ref mK, .ref mV, .int dr, .int dc, .int ds, .int ru, .int cl, .ref mO, .int os, .int fc, .ref mA, .ref mB, .ref mU, .ref mW, .int pi, .int wh, .long ms, .int aq, .int da, .ref mX, .ref mY, .long lu, .long ld, .long qu, .long qd])), (mA, .inl (cJ, 40, .inr (.inl gn)))] := hD
    have ez_3 := fo_b hz_3 (by omega)
    refine lv_istore_n (lv' := [(3, .int z_3), (0, .ref oM), (1, .long nm)]) hx hb d_Model_forget_21 rfl hl (by decide) rfl (fun ls hl => ?_)
    refine lv_aload_n hx hb d_Model_forget_22 rfl (lv_at hl 1 rfl) ?_
    refine va_get (D := (dC, dI)) (ci := 8) (v := .int 1) (C := "PermitRulesModel") (T := T_Model) (N := 40) hx hb htb in_Model hown hK hP 1 rfl rfl 0 (by decide) (htb _ mb_653) (fun _ h9 => h9) rfl d_Model_forget_23 ?_
    refine lv_if_gt (tgt := 33) hx hb d_Model_forget_26 (by decide) (fun c_4 => ?_) (fun c_4 => ?_)
    · skip
      refine lv_aload_n hx hb d_Model_forget_33 rfl (lv_at hl 1 rfl) ?_
      refine va_get (D := (dC, dI)) (ci := 8) (v := .int 1) (C := "PermitRulesModel") (T := T_Model) (N := 40) hx hb htb in_Model hown hK hP 1 rfl rfl 0 (by decide) (htb _ mb_653) (fun _ h9 => h9) rfl d_Model_forget_34 ?_
      refine lv_if_le (tgt := 44) hx hb d_Model_forget_37 (by decide) (fun c_5 => ?_) (fun c_5 => ?_)
      · exact absurd c_5 (by decide)
      · skip
        refine lv_lconst (v := 0) hx hb d_Model_forget_40 (by decide) ?_
        refine lv_goto (tgt := 47) hx hb d_Model_forget_41 (by decide) ?_
        have hP9 := hP.sub (ws' := [(oM, .inr (8, [.int 1, .ref mT, .int ml, .int ma, .int mk, .int mp, .long mv, .int mw, .ref mN, .ref mD, .ref mF, .ref mS, .ref mL, .ref mR, .ref mE, .ref mK, .ref mV, .int dr, .int dc, .int ds, .int ru, .int cl, .ref mO, .int os, .int fc, .ref mA, .ref mB, .ref mU, .ref mW, .int pi, .int wh, .long ms, .int aq, .int da, .ref mX, .ref mY, .long lu, .long ld, .long qu, .long qd])), (mA, .inl (cJ, 40, .inr (.inl gn))), (mB, .inl (cJ, 40, .inr (.inl gv)))]) [1, 2, 0] rfl
        have hD9 := hD.sub (ws' := [(oM, .inr (8, [.int 1, .ref mT, .int ml, .int ma, .int mk, .int mp, .long mv, .int mw, .ref mN, .ref mD, .ref mF, .ref mS, .ref mL, .ref mR, .ref mE, .ref mK, .ref mV, .int dr, .int dc, .int ds, .int ru, .int cl, .ref mO, .int os, .int fc, .ref mA, .ref mB, .ref mU, .ref mW, .int pi, .int wh, .long ms, .int aq, .int da, .ref mX, .ref mY, .long lu, .long ld, .long qu, .long qd])), (mA, .inl (cJ, 40, .inr (.inl gn))), (mB, .inl (cJ, 40, .inr (.inl gv)))]) [1, 2, 0] (by decide) rfl
        exact W.lret (v := (0 : Int64)) hx hb hr (fun t ht hW => ⟨⟨(0 : Int64), (1, fc, gn, gv), rfl, ⟨by rw [hF], by rw [hF]⟩, by rw [ht]; exact hP9, hD9⟩, hS.F ht⟩) hS.2.2 d_Model_forget_47
    · exact absurd (by decide) c_4
  · have hF := hF.trans (if_neg c_2)
    have tc_2 := ti_ne (Eq.refl z_1.toInt) (show (0 : Int32).toInt = 0 by decide) c_2
    refine lv_iconst (v := 0) hx hb d_Model_forget_8 (by decide) ?_
    refine lv_goto (tgt := 13) hx hb d_Model_forget_9 (by decide) ?_
    refine va_put (D := (dC, dI)) (ci := 8) (v := .int 0) (ty := .int) (C := "PermitRulesModel") (T := T_Model) (N := 40) hx hb htb in_Model ty_Model to_Model nm_Model hown hK hP hD hS 0 rfl rfl 0 (by decide) (htb _ mb_653) (fun _ h9 => h9) rfl (by decide +kernel) rfl rfl (Nat.le_of_ble_eq_true rfl) d_Model_forget_13 (fun H locs hP hD hS => ?_)
    have hP : va_P (dC, dI) vwCl [(oM, .inr (8, [.int 0, .ref mT, .int ml, .int ma, .int mk, .int mp, .long mv, .int mw, .ref mN, .ref mD, .ref mF, .ref mS, .ref mL, .ref mR, .ref mE, .ref mK, .ref mV, .int dr, .int dc, .int ds, .int ru, .int cl, .ref mO, .int os, .int fc, .ref mA, .ref mB, .ref mU, .ref mW, .int pi, .int wh, .long ms, .int aq, .int da, .ref mX, .ref mY, .long lu, .long ld, .long qu, .long qd])), (mA, .inl (cJ, 40, .inr (.inl gn))), (mB, .inl (cJ, 40, .inr (.inl gv)))] H := hP
    have hD : va_D A [(oM, .inr (8, [.int 0, .ref mT, .int ml, .int ma, .int mk, .int mp, .long mv, .int mw, .ref mN, .ref mD, .ref mF, .ref mS, .ref mL, .ref mR, .ref mE, .ref mK, .ref mV, .int dr, .int dc, .int ds, .int ru, .int cl, .ref mO, .int os, .int fc, .ref mA, .ref mB, .ref mU, .ref mW, .int pi, .int wh, .long ms, .int aq, .int da, .ref mX, .ref mY, .long lu, .long ld, .long qu, .long qd])), (mA, .inl (cJ, 40, .inr (.inl gn))), (mB, .inl (cJ, 40, .inr (.inl gv)))] := hD
    refine lv_aload_n hx hb d_Model_forget_16 rfl (lv_at hl 0 rfl) ?_
    refine lv_lload_n hx hb d_Model_forget_17 rfl (lv_at hl 1 rfl) ?_
    have hPc := hP.sub (ws' := [(oM, .inr (8, [.int 0, .ref mT, .int ml, .int ma, .int mk, .int mp, .long mv, .int mw, .ref mN, .ref mD, .ref mF, .ref mS, .ref mL, .ref mR, .ref mE, .ref mK, .ref mV, .int dr, .int dc, .int ds, .int ru, .int cl, .ref mO, .int os, .int fc, .ref mA, .ref mB, .ref mU, .ref mW, .int pi, .int wh, .long ms, .int aq, .int da, .ref mX, .ref mY, .long lu, .long ld, .long qu, .long qd])), (mA, .inl (cJ, 40, .inr (.inl gn)))]) [0, 1] rfl
    have hDc := hD.sub (ws' := [(oM, .inr (8, [.int 0, .ref mT, .int ml, .int ma, .int mk, .int mp, .long mv, .int mw, .ref mN, .ref mD, .ref mF, .ref mS, .ref mL, .ref mR, .ref mE, .ref mK, .ref mV, .int dr, .int dc, .int ds, .int ru, .int cl, .ref mO, .int os, .int fc, .ref mA, .ref mB, .ref mU, .ref mW, .int pi, .int wh, .long ms, .int aq, .int da, .ref mX, .ref mY, .long lu, .long ld, .long qu, .long qd])), (mA, .inl (cJ, 40, .inr (.inl gn)))]) [0, 1] (by decide) rfl
    have hFc := va_free (wc := [(oM, .inr (8, [.int 0, .ref mT, .int ml, .int ma, .int mk, .int mp, .long mv, .int mw, .ref mN, .ref mD, .ref mF, .ref mS, .ref mL, .ref mR, .ref mE, .ref mK, .ref mV, .int dr, .int dc, .int ds, .int ru, .int cl, .ref mO, .int os, .int fc, .ref mA, .ref mB, .ref mU, .ref mW, .int pi, .int wh, .long ms, .int aq, .int da, .ref mX, .ref mY, .long lu, .long ld, .long qu, .long qd])), (mA, .inl (cJ, 40, .inr (.inl gn)))]) hD hS hA [0, 1] rfl
    refine va_calli (va_runV (As := [.long nm]) (rest := []) ⟨hx, hb, hml, hown, htb⟩ (c_Model_factOf l dC dI cB cI cJ oM mT mN mD mF mS mL mR mE mK mV mO mA mB mU mW mX mY _ nm 0 ml ma mk mp mv mw dr dc ds ru cl os fc pi wh ms aq da lu ld qu qd gn (by omega) (by omega)) ⟨callB_of 1 htb (gb_all mb_854) rfl rfl rfl (htb _ mb_9) (htb _ mb_851) (by decide +kernel) ⟨Nat.le_of_ble_eq_true rfl, Nat.le_of_ble_eq_true rfl⟩, htb _ mb_853, htb _ mp_26⟩ ⟨kb_blind, va_recv hK hPc (ci := 8) (q0 := 0) rfl rfl, kb_at hPc hDc hKx⟩ rfl rfl hl.1 rfl (lv_room (Nat.le_of_ble_eq_true rfl)) d_Model_forget_18 ⟨Nat.le_of_ble_eq_true rfl, Nat.le_of_ble_eq_true rfl⟩) hS (fun q _ h => hFc q h) hFc (fun z_6 u t H1 locs ht hvm hw hB hz1 hk1 hS => ?_)
    have hz_6 := hw
    have hF := hF.trans (lt_e hz_6)
    obtain ⟨hP1, hD1⟩ := hB
    rw [ht] at hP1
    obtain ⟨hP, hD⟩ := va_join (wr := [(mB, .inl (cJ, 40, .inr (.inl gv)))]) (w1 := [(oM, .inr (8, [.int 0, .ref mT, .int ml, .int ma, .int mk, .int mp, .long mv, .int mw, .ref mN, .ref mD, .ref mF, .ref mS, .ref mL, .ref mR, .ref mE, .ref mK, .ref mV, .int dr, .int dc, .int ds, .int ru, .int cl, .ref mO, .int os, .int fc, .ref mA, .ref mB, .ref mU, .ref mW, .int pi, .int wh, .long ms, .int aq, .int da, .ref mX, .ref mY, .long lu, .long ld, .long qu, .long qd])), (mA, .inl (cJ, 40, .inr (.inl gn)))]) hP hD [0, 1] [2] rfl rfl (by decide) (by decide) hk1 hFc hP1 hD1
    generalize H1 = H at hP hS ⊢
    have hP : va_P (dC, dI) vwCl [(mB, .inl (cJ, 40, .inr (.inl gv))), (oM, .inr (8, [.int 0, .ref mT, .int ml, .int ma, .int mk, .int mp, .long mv, .int mw, .ref mN, .ref mD, .ref mF, .ref mS, .ref mL, .ref mR, .ref mE, .ref mK, .ref mV, .int dr, .int dc, .int ds, .int ru, .int cl, .ref mO, .int os, .int fc, .ref mA, .ref mB, .ref mU, .ref mW, .int pi, .int wh, .long ms, .int aq, .int da, .ref mX, .ref mY, .long lu, .long ld, .long qu, .long qd])), (mA, .inl (cJ, 40, .inr (.inl gn)))] H := hP
    have hD : va_D A [(mB, .inl (cJ, 40, .inr (.inl gv))), (oM, .inr (8, [.int 0, .ref mT, .int ml, .int ma, .int mk, .int mp, .long mv, .int mw, .ref mN, .ref mD, .ref mF, .ref mS, .ref mL, .ref mR, .ref mE, .ref mK, .ref mV, .int dr, .int dc, .int ds, .int ru, .int cl, .ref mO, .int os, .int fc, .ref mA, .ref mB, .ref mU, .ref mW, .int pi, .int wh, .long ms, .int aq, .int da, .ref mX, .ref mY, .long lu, .long ld, .long qu, .long qd])), (mA, .inl (cJ, 40, .inr (.inl gn)))] := hD
    have ez_6 := fo_b hz_6 (by omega)
    refine lv_istore_n (lv' := [(3, .int z_6), (0, .ref oM), (1, .long nm)]) hx hb d_Model_forget_21 rfl hl (by decide) rfl (fun ls hl => ?_)
    refine lv_aload_n hx hb d_Model_forget_22 rfl (lv_at hl 1 rfl) ?_
    refine va_get (D := (dC, dI)) (ci := 8) (v := .int 0) (C := "PermitRulesModel") (T := T_Model) (N := 40) hx hb htb in_Model hown hK hP 1 rfl rfl 0 (by decide) (htb _ mb_653) (fun _ h9 => h9) rfl d_Model_forget_23 ?_
    refine lv_if_gt (tgt := 33) hx hb d_Model_forget_26 (by decide) (fun c_7 => ?_) (fun c_7 => ?_)
    · exact absurd c_7 (by decide)
    · skip
      refine lv_iload_n hx hb d_Model_forget_29 rfl (lv_at hl 0 rfl) ?_
      refine lv_if_ge (tgt := 48) hx hb d_Model_forget_30 (by decide) (fun c_8 => ?_) (fun c_8 => ?_)
      · have hF := hF.trans (if_pos c_8)
        have tc_8 := ti_le (show (0 : Int32).toInt = 0 by decide) (Eq.refl z_6.toInt) c_8
        refine lv_aload_n hx hb d_Model_forget_48 rfl (lv_at hl 1 rfl) ?_
        refine va_get (D := (dC, dI)) (ci := 8) (v := .ref mB) (C := "PermitRulesModel") (T := T_Model) (N := 40) hx hb htb in_Model hown hK hP 1 rfl rfl 26 (by decide) (htb _ mb_679) (fun _ h9 => h9) rfl d_Model_forget_49 ?_
        refine lv_iload_n hx hb d_Model_forget_52 rfl (lv_at hl 0 rfl) ?_
        refine va_lald hx hb hK hP 0 2 rfl rfl (ib_in (Eq.refl z_6.toInt) (by omega) (by omega)) d_Model_forget_53 ?_
        refine lv_lstore (lv' := [(4, .long (gv z_6.toNatClampNeg)), (3, .int z_6), (0, .ref oM), (1, .long nm)]) hx hb d_Model_forget_54 hl (by decide) rfl (fun ls hl => ?_)
        refine lv_aload_n hx hb d_Model_forget_56 rfl (lv_at hl 2 rfl) ?_
        refine lv_dup hx hb d_Model_forget_57 rfl ?_
        refine va_get (D := (dC, dI)) (ci := 8) (v := .int fc) (C := "PermitRulesModel") (T := T_Model) (N := 40) hx hb htb in_Model hown hK hP 1 rfl rfl 24 (by decide) (htb _ mb_677) (fun _ h9 => h9) rfl d_Model_forget_58 ?_
        refine lv_iconst (v := 1) hx hb d_Model_forget_61 (by decide) ?_
        refine lv_isub hx hb d_Model_forget_62 ?_
        refine va_put (D := (dC, dI)) (ci := 8) (v := .int (fc - 1)) (ty := .int) (C := "PermitRulesModel") (T := T_Model) (N := 40) hx hb htb in_Model ty_Model to_Model nm_Model hown hK hP hD hS 1 rfl rfl 24 (by decide) (htb _ mb_677) (fun _ h9 => h9) rfl (by decide +kernel) rfl rfl (Nat.le_of_ble_eq_true rfl) d_Model_forget_63 (fun H locs hP hD hS => ?_)
        have hP : va_P (dC, dI) vwCl [(mB, .inl (cJ, 40, .inr (.inl gv))), (oM, .inr (8, [.int 0, .ref mT, .int ml, .int ma, .int mk, .int mp, .long mv, .int mw, .ref mN, .ref mD, .ref mF, .ref mS, .ref mL, .ref mR, .ref mE, .ref mK, .ref mV, .int dr, .int dc, .int ds, .int ru, .int cl, .ref mO, .int os, .int (fc - 1), .ref mA, .ref mB, .ref mU, .ref mW, .int pi, .int wh, .long ms, .int aq, .int da, .ref mX, .ref mY, .long lu, .long ld, .long qu, .long qd])), (mA, .inl (cJ, 40, .inr (.inl gn)))] H := hP
        have hD : va_D A [(mB, .inl (cJ, 40, .inr (.inl gv))), (oM, .inr (8, [.int 0, .ref mT, .int ml, .int ma, .int mk, .int mp, .long mv, .int mw, .ref mN, .ref mD, .ref mF, .ref mS, .ref mL, .ref mR, .ref mE, .ref mK, .ref mV, .int dr, .int dc, .int ds, .int ru, .int cl, .ref mO, .int os, .int (fc - 1), .ref mA, .ref mB, .ref mU, .ref mW, .int pi, .int wh, .long ms, .int aq, .int da, .ref mX, .ref mY, .long lu, .long ld, .long qu, .long qd])), (mA, .inl (cJ, 40, .inr (.inl gn)))] := hD
        refine lv_aload_n hx hb d_Model_forget_66 rfl (lv_at hl 2 rfl) ?_
        refine va_get (D := (dC, dI)) (ci := 8) (v := .ref mA) (C := "PermitRulesModel") (T := T_Model) (N := 40) hx hb htb in_Model hown hK hP 1 rfl rfl 25 (by decide) (htb _ mb_678) (fun _ h9 => h9) rfl d_Model_forget_67 ?_
        refine lv_iload_n hx hb d_Model_forget_70 rfl (lv_at hl 1 rfl) ?_
        refine lv_aload_n hx hb d_Model_forget_71 rfl (lv_at hl 2 rfl) ?_
        refine va_get (D := (dC, dI)) (ci := 8) (v := .ref mA) (C := "PermitRulesModel") (T := T_Model) (N := 40) hx hb htb in_Model hown hK hP 1 rfl rfl 25 (by decide) (htb _ mb_678) (fun _ h9 => h9) rfl d_Model_forget_72 ?_
        refine lv_aload_n hx hb d_Model_forget_75 rfl (lv_at hl 2 rfl) ?_
        refine va_get (D := (dC, dI)) (ci := 8) (v := .int (fc - 1)) (C := "PermitRulesModel") (T := T_Model) (N := 40) hx hb htb in_Model hown hK hP 1 rfl rfl 24 (by decide) (htb _ mb_677) (fun _ h9 => h9) rfl d_Model_forget_76 ?_
        refine va_lald hx hb hK hP 2 2 rfl rfl (ib_in (oi_subE (Eq.refl fc.toInt) (show (1 : Int32).toInt = 1 by decide) (by omega) (by omega)) (by omega) (by omega)) d_Model_forget_79 ?_
        refine va_last hx hb hK hP hD hS 2 2 rfl rfl (ib_in (Eq.refl z_6.toInt) (by omega) (by omega)) d_Model_forget_80 (fun H locs hP hD hS => ?_)
        have hP : va_P (dC, dI) vwCl [(mB, .inl (cJ, 40, .inr (.inl gv))), (oM, .inr (8, [.int 0, .ref mT, .int ml, .int ma, .int mk, .int mp, .long mv, .int mw, .ref mN, .ref mD, .ref mF, .ref mS, .ref mL, .ref mR, .ref mE, .ref mK, .ref mV, .int dr, .int dc, .int ds, .int ru, .int cl, .ref mO, .int os, .int (fc - 1), .ref mA, .ref mB, .ref mU, .ref mW, .int pi, .int wh, .long ms, .int aq, .int da, .ref mX, .ref mY, .long lu, .long ld, .long qu, .long qd])), (mA, .inl (cJ, 40, .inr (.inl (vp_updL gn z_6.toNatClampNeg (gn (fc - 1).toNatClampNeg)))))] H := hP
        have hD : va_D A [(mB, .inl (cJ, 40, .inr (.inl gv))), (oM, .inr (8, [.int 0, .ref mT, .int ml, .int ma, .int mk, .int mp, .long mv, .int mw, .ref mN, .ref mD, .ref mF, .ref mS, .ref mL, .ref mR, .ref mE, .ref mK, .ref mV, .int dr, .int dc, .int ds, .int ru, .int cl, .ref mO, .int os, .int (fc - 1), .ref mA, .ref mB, .ref mU, .ref mW, .int pi, .int wh, .long ms, .int aq, .int da, .ref mX, .ref mY, .long lu, .long ld, .long qu, .long qd])), (mA, .inl (cJ, 40, .inr (.inl (vp_updL gn z_6.toNatClampNeg (gn (fc - 1).toNatClampNeg)))))] := hD
        refine lv_aload_n hx hb d_Model_forget_81 rfl (lv_at hl 2 rfl) ?_
        refine va_get (D := (dC, dI)) (ci := 8) (v := .ref mB) (C := "PermitRulesModel") (T := T_Model) (N := 40) hx hb htb in_Model hown hK hP 1 rfl rfl 26 (by decide) (htb _ mb_679) (fun _ h9 => h9) rfl d_Model_forget_82 ?_
        refine lv_iload_n hx hb d_Model_forget_85 rfl (lv_at hl 1 rfl) ?_
        refine lv_aload_n hx hb d_Model_forget_86 rfl (lv_at hl 2 rfl) ?_
        refine va_get (D := (dC, dI)) (ci := 8) (v := .ref mB) (C := "PermitRulesModel") (T := T_Model) (N := 40) hx hb htb in_Model hown hK hP 1 rfl rfl 26 (by decide) (htb _ mb_679) (fun _ h9 => h9) rfl d_Model_forget_87 ?_
        refine lv_aload_n hx hb d_Model_forget_90 rfl (lv_at hl 2 rfl) ?_
        refine va_get (D := (dC, dI)) (ci := 8) (v := .int (fc - 1)) (C := "PermitRulesModel") (T := T_Model) (N := 40) hx hb htb in_Model hown hK hP 1 rfl rfl 24 (by decide) (htb _ mb_677) (fun _ h9 => h9) rfl d_Model_forget_91 ?_
        refine va_lald hx hb hK hP 0 2 rfl rfl (ib_in (oi_subE (Eq.refl fc.toInt) (show (1 : Int32).toInt = 1 by decide) (by omega) (by omega)) (by omega) (by omega)) d_Model_forget_94 ?_
        refine va_last hx hb hK hP hD hS 0 2 rfl rfl (ib_in (Eq.refl z_6.toInt) (by omega) (by omega)) d_Model_forget_95 (fun H locs hP hD hS => ?_)
        have hP : va_P (dC, dI) vwCl [(mB, .inl (cJ, 40, .inr (.inl (vp_updL gv z_6.toNatClampNeg (gv (fc - 1).toNatClampNeg))))), (oM, .inr (8, [.int 0, .ref mT, .int ml, .int ma, .int mk, .int mp, .long mv, .int mw, .ref mN, .ref mD, .ref mF, .ref mS, .ref mL, .ref mR, .ref mE, .ref mK, .ref mV, .int dr, .int dc, .int ds, .int ru, .int cl, .ref mO, .int os, .int (fc - 1), .ref mA, .ref mB, .ref mU, .ref mW, .int pi, .int wh, .long ms, .int aq, .int da, .ref mX, .ref mY, .long lu, .long ld, .long qu, .long qd])), (mA, .inl (cJ, 40, .inr (.inl (vp_updL gn z_6.toNatClampNeg (gn (fc - 1).toNatClampNeg)))))] H := hP
        have hD : va_D A [(mB, .inl (cJ, 40, .inr (.inl (vp_updL gv z_6.toNatClampNeg (gv (fc - 1).toNatClampNeg))))), (oM, .inr (8, [.int 0, .ref mT, .int ml, .int ma, .int mk, .int mp, .long mv, .int mw, .ref mN, .ref mD, .ref mF, .ref mS, .ref mL, .ref mR, .ref mE, .ref mK, .ref mV, .int dr, .int dc, .int ds, .int ru, .int cl, .ref mO, .int os, .int (fc - 1), .ref mA, .ref mB, .ref mU, .ref mW, .int pi, .int wh, .long ms, .int aq, .int da, .ref mX, .ref mY, .long lu, .long ld, .long qu, .long qd])), (mA, .inl (cJ, 40, .inr (.inl (vp_updL gn z_6.toNatClampNeg (gn (fc - 1).toNatClampNeg)))))] := hD
        refine lv_lload hx hb d_Model_forget_96 (lv_at hl 0 rfl) ?_
        have hP9 := hP.sub (ws' := [(oM, .inr (8, [.int 0, .ref mT, .int ml, .int ma, .int mk, .int mp, .long mv, .int mw, .ref mN, .ref mD, .ref mF, .ref mS, .ref mL, .ref mR, .ref mE, .ref mK, .ref mV, .int dr, .int dc, .int ds, .int ru, .int cl, .ref mO, .int os, .int (fc - 1), .ref mA, .ref mB, .ref mU, .ref mW, .int pi, .int wh, .long ms, .int aq, .int da, .ref mX, .ref mY, .long lu, .long ld, .long qu, .long qd])), (mA, .inl (cJ, 40, .inr (.inl (vp_updL gn z_6.toNatClampNeg (gn (fc - 1).toNatClampNeg))))), (mB, .inl (cJ, 40, .inr (.inl (vp_updL gv z_6.toNatClampNeg (gv (fc - 1).toNatClampNeg)))))]) [1, 2, 0] rfl
        have hD9 := hD.sub (ws' := [(oM, .inr (8, [.int 0, .ref mT, .int ml, .int ma, .int mk, .int mp, .long mv, .int mw, .ref mN, .ref mD, .ref mF, .ref mS, .ref mL, .ref mR, .ref mE, .ref mK, .ref mV, .int dr, .int dc, .int ds, .int ru, .int cl, .ref mO, .int os, .int (fc - 1), .ref mA, .ref mB, .ref mU, .ref mW, .int pi, .int wh, .long ms, .int aq, .int da, .ref mX, .ref mY, .long lu, .long ld, .long qu, .long qd])), (mA, .inl (cJ, 40, .inr (.inl (vp_updL gn z_6.toNatClampNeg (gn (fc - 1).toNatClampNeg))))), (mB, .inl (cJ, 40, .inr (.inl (vp_updL gv z_6.toNatClampNeg (gv (fc - 1).toNatClampNeg)))))]) [1, 2, 0] (by decide) rfl
        exact W.lret (v := gv z_6.toNatClampNeg) hx hb hr (fun t ht hW => ⟨⟨gv z_6.toNatClampNeg, (0, fc - 1, vp_updL gn z_6.toNatClampNeg (gn (fc - 1).toNatClampNeg), vp_updL gv z_6.toNatClampNeg (gv (fc - 1).toNatClampNeg)), rfl, ⟨by rw [hF], by rw [hF]⟩, by rw [ht]; exact hP9, hD9⟩, hS.F ht⟩) hS.2.2 d_Model_forget_98
      · have hF := hF.trans (if_neg c_8)
        have tc_8 := ti_nle (show (0 : Int32).toInt = 0 by decide) (Eq.refl z_6.toInt) c_8
        refine lv_aload_n hx hb d_Model_forget_33 rfl (lv_at hl 1 rfl) ?_
        refine va_get (D := (dC, dI)) (ci := 8) (v := .int 0) (C := "PermitRulesModel") (T := T_Model) (N := 40) hx hb htb in_Model hown hK hP 1 rfl rfl 0 (by decide) (htb _ mb_653) (fun _ h9 => h9) rfl d_Model_forget_34 ?_
        refine lv_if_le (tgt := 44) hx hb d_Model_forget_37 (by decide) (fun c_9 => ?_) (fun c_9 => ?_)
        · skip
          refine lv_ldc2 (v := 1000000000000) hx hb hown (htb _ mb_860) d_Model_forget_44 ?_
          have hP9 := hP.sub (ws' := [(oM, .inr (8, [.int 0, .ref mT, .int ml, .int ma, .int mk, .int mp, .long mv, .int mw, .ref mN, .ref mD, .ref mF, .ref mS, .ref mL, .ref mR, .ref mE, .ref mK, .ref mV, .int dr, .int dc, .int ds, .int ru, .int cl, .ref mO, .int os, .int fc, .ref mA, .ref mB, .ref mU, .ref mW, .int pi, .int wh, .long ms, .int aq, .int da, .ref mX, .ref mY, .long lu, .long ld, .long qu, .long qd])), (mA, .inl (cJ, 40, .inr (.inl gn))), (mB, .inl (cJ, 40, .inr (.inl gv)))]) [1, 2, 0] rfl
          have hD9 := hD.sub (ws' := [(oM, .inr (8, [.int 0, .ref mT, .int ml, .int ma, .int mk, .int mp, .long mv, .int mw, .ref mN, .ref mD, .ref mF, .ref mS, .ref mL, .ref mR, .ref mE, .ref mK, .ref mV, .int dr, .int dc, .int ds, .int ru, .int cl, .ref mO, .int os, .int fc, .ref mA, .ref mB, .ref mU, .ref mW, .int pi, .int wh, .long ms, .int aq, .int da, .ref mX, .ref mY, .long lu, .long ld, .long qu, .long qd])), (mA, .inl (cJ, 40, .inr (.inl gn))), (mB, .inl (cJ, 40, .inr (.inl gv)))]) [1, 2, 0] (by decide) rfl
          exact W.lret (v := (1000000000000 : Int64)) hx hb hr (fun t ht hW => ⟨⟨(1000000000000 : Int64), (0, fc, gn, gv), rfl, ⟨by rw [hF], by rw [hF]⟩, by rw [ht]; exact hP9, hD9⟩, hS.F ht⟩) hS.2.2 d_Model_forget_47
        · exact absurd (by decide) c_9
def f_Model_stop (rs : Int32) (wh : Int32) : Int32 := (if wh = 0 then rs else wh)
abbrev q_Model_stop (dC : Nat → ClassId) (dI : Nat → Nat → Nat) (cB cI cJ : ClassId) (oM mT mN mD mF mS mL mR mE mK mV mO mA mB mU mW mX mY : Nat) (rs : Int32) (th : Int32) (ml : Int32) (ma : Int32) (mk : Int32) (mp : Int32) (mv : Int64) (mw : Int32) (dr : Int32) (dc : Int32) (ds : Int32) (ru : Int32) (cl : Int32) (os : Int32) (fc : Int32) (pi : Int32) (wh : Int32) (ms : Int64) (aq : Int32) (da : Int32) (lu : Int64) (ld : Int64) (qu : Int64) (qd : Int64) (A : Nat → Prop) : Array Value → State → Outcome → State → Prop := va_Qv (fun u : Int32 => u = f_Model_stop rs wh) (fun u t => va_P (dC, dI) vwCl [(oM, .inr (8, [.int th, .ref mT, .int ml, .int ma, .int mk, .int mp, .long mv, .int mw, .ref mN, .ref mD, .ref mF, .ref mS, .ref mL, .ref mR, .ref mE, .ref mK, .ref mV, .int dr, .int dc, .int ds, .int ru, .int cl, .ref mO, .int os, .int fc, .ref mA, .ref mB, .ref mU, .ref mW, .int pi, .int u, .long ms, .int aq, .int da, .ref mX, .ref mY, .long lu, .long ld, .long qu, .long qd]))] t.heap ∧ va_D A [(oM, .inr (8, [.int th, .ref mT, .int ml, .int ma, .int mk, .int mp, .long mv, .int mw, .ref mN, .ref mD, .ref mF, .ref mS, .ref mL, .ref mR, .ref mE, .ref mK, .ref mV, .int dr, .int dc, .int ds, .int ru, .int cl, .ref mO, .int os, .int fc, .ref mA, .ref mB, .ref mU, .ref mW, .int pi, .int u, .long ms, .int aq, .int da, .ref mX, .ref mY, .long lu, .long ld, .long qu, .long qd]))]) A
set_option maxHeartbeats 4000000 in
set_option maxRecDepth 100000 in
theorem c_Model_stop (l : Launch) (dC : Nat → ClassId) (dI : Nat → Nat → Nat) (cB cI cJ : ClassId) (oM mT mN mD mF mS mL mR mE mK mV mO mA mB mU mW mX mY : Nat) (sz : Nat) (rs : Int32) (th : Int32) (ml : Int32) (ma : Int32) (mk : Int32) (mp : Int32) (mv : Int64) (mw : Int32) (dr : Int32) (dc : Int32) (ds : Int32) (ru : Int32) (cl : Int32) (os : Int32) (fc : Int32) (pi : Int32) (wh : Int32) (ms : Int64) (aq : Int32) (da : Int32) (lu : Int64) (ld : Int64) (qu : Int64) (qd : Int64) : Met l y_Model_stop (cw_Model_stop :: bgw) { frames := 0, cells := 0, slots := 0, locals := 0 } (va_Pc [.ref oM, .int rs] (kb_B dC dI cB cI cJ [(oM, .inr (8, [.int th, .ref mT, .int ml, .int ma, .int mk, .int mp, .long mv, .int mw, .ref mN, .ref mD, .ref mF, .ref mS, .ref mL, .ref mR, .ref mE, .ref mK, .ref mV, .int dr, .int dc, .int ds, .int ru, .int cl, .ref mO, .int os, .int fc, .ref mA, .ref mB, .ref mU, .ref mW, .int pi, .int wh, .long ms, .int aq, .int da, .ref mX, .ref mY, .long lu, .long ld, .long qu, .long qd]))] sz)) (q_Model_stop dC dI cB cI cJ oM mT mN mD mF mS mL mR mE mK mV mO mA mB mU mW mX mY rs th ml ma mk mp mv mw dr dc ds ru cl os fc pi wh ms aq da lu ld qu qd (va_A [(oM, .inr (8, [.int th, .ref mT, .int ml, .int ma, .int mk, .int mp, .long mv, .int mw, .ref mN, .ref mD, .ref mF, .ref mS, .ref mL, .ref mR, .ref mE, .ref mK, .ref mV, .int dr, .int dc, .int ds, .int ru, .int cl, .ref mO, .int os, .int fc, .ref mA, .ref mB, .ref mU, .ref mW, .int pi, .int wh, .long ms, .int aq, .int da, .ref mX, .ref mY, .long lu, .long ld, .long qu, .long qd]))] sz)) 0 0 (va_A [(oM, .inr (8, [.int th, .ref mT, .int ml, .int ma, .int mk, .int mp, .long mv, .int mw, .ref mN, .ref mD, .ref mF, .ref mS, .ref mL, .ref mR, .ref mE, .ref mK, .ref mV, .int dr, .int dc, .int ds, .int ru, .int cl, .ref mO, .int os, .int fc, .ref mA, .ref mB, .ref mU, .ref mW, .int pi, .int wh, .long ms, .int aq, .int da, .ref mX, .ref mY, .long lu, .long ld, .long qu, .long qd]))] sz) := by
  refine Met.ofW (cc := prog_10_method_23_code) (maxL := 2) (ret := none) (by decide) rfl ?_
  intro p e s m args below meth c s₁ B hml hv
  obtain ⟨rfl, hsz, hP, hKx, hD0⟩ := hv
  have hx := B.exec
  have hb := B.bytes
  have hr := B.returns
  have hts := atoms_spec (ws := (cw_Model_stop :: bgw)) B.pre
  have hown : s.vm.findClass "PermitRulesModel" = some m.cls := findClass_of_methodNamed B.named
  have hlocks := B.notSynchronized
  have htb := fun (w : Cond) (h : w ∈ bgw) => hts w (List.mem_cons_of_mem _ h)
  have hK := hKx.1
  subst hsz
  have hD := hD0.self (sz := s.heap.size)
  generalize hAe : va_A [(oM, .inr (8, [.int th, .ref mT, .int ml, .int ma, .int mk, .int mp, .long mv, .int mw, .ref mN, .ref mD, .ref mF, .ref mS, .ref mL, .ref mR, .ref mE, .ref mK, .ref mV, .int dr, .int dc, .int ds, .int ru, .int cl, .ref mO, .int os, .int fc, .ref mA, .ref mB, .ref mU, .ref mW, .int pi, .int wh, .long ms, .int aq, .int da, .ref mX, .ref mY, .long lu, .long ld, .long qu, .long qd]))] s.heap.size = A at hD ⊢
  have hA : ∀ q : Nat, s.heap.size ≤ q → A q := fun q h => by rw [← hAe]; exact Or.inr h
  have hS : va_S A s.heap s.heap [] := va_S.rf
  have hl := lv_entry ([.ref oM, .int rs]) (n := 2) (Nat.le_of_ble_eq_true rfl)
  rw [lg_entry_eq]
  generalize (lg_sl ([.ref oM, .int rs]) ++ List.replicate (2 - (lg_sl ([.ref oM, .int rs])).length) Slot.unset).toArray = ls at hl ⊢
  have hl : lv_has ls 2 [(0, .ref oM), (1, .int rs)] := hl
  have hP : va_P (dC, dI) vwCl [(oM, .inr (8, [.int th, .ref mT, .int ml, .int ma, .int mk, .int mp, .long mv, .int mw, .ref mN, .ref mD, .ref mF, .ref mS, .ref mL, .ref mR, .ref mE, .ref mK, .ref mV, .int dr, .int dc, .int ds, .int ru, .int cl, .ref mO, .int os, .int fc, .ref mA, .ref mB, .ref mU, .ref mW, .int pi, .int wh, .long ms, .int aq, .int da, .ref mX, .ref mY, .long lu, .long ld, .long qu, .long qd]))] s.heap := hP
  have hF : f_Model_stop rs wh = (if wh = 0 then rs else wh) := rfl
  refine lv_aload_n hx hb d_Model_stop_0 rfl (lv_at hl 0 rfl) ?_
  refine lv_aload_n hx hb d_Model_stop_1 rfl (lv_at hl 0 rfl) ?_
  refine va_get (D := (dC, dI)) (ci := 8) (v := .int wh) (C := "PermitRulesModel") (T := T_Model) (N := 40) hx hb htb in_Model hown hK hP 0 rfl rfl 30 (by decide) (htb _ mb_683) (fun _ h9 => h9) rfl d_Model_stop_2 ?_
  refine lv_if_ne (tgt := 12) hx hb d_Model_stop_5 (by decide) (fun c_1 => ?_) (fun c_1 => ?_)
  · have hF := hF.trans (if_neg c_1)
    have tc_1 := ti_ne (Eq.refl wh.toInt) (show (0 : Int32).toInt = 0 by decide) c_1
    refine lv_aload_n hx hb d_Model_stop_12 rfl (lv_at hl 0 rfl) ?_
    refine va_get (D := (dC, dI)) (ci := 8) (v := .int wh) (C := "PermitRulesModel") (T := T_Model) (N := 40) hx hb htb in_Model hown hK hP 0 rfl rfl 30 (by decide) (htb _ mb_683) (fun _ h9 => h9) rfl d_Model_stop_13 ?_
    refine va_put (D := (dC, dI)) (ci := 8) (v := .int wh) (ty := .int) (C := "PermitRulesModel") (T := T_Model) (N := 40) hx hb htb in_Model ty_Model to_Model nm_Model hown hK hP hD hS 0 rfl rfl 30 (by decide) (htb _ mb_683) (fun _ h9 => h9) rfl (by decide +kernel) rfl rfl (Nat.le_of_ble_eq_true rfl) d_Model_stop_16 (fun H locs hP hD hS => ?_)
    have hP : va_P (dC, dI) vwCl [(oM, .inr (8, [.int th, .ref mT, .int ml, .int ma, .int mk, .int mp, .long mv, .int mw, .ref mN, .ref mD, .ref mF, .ref mS, .ref mL, .ref mR, .ref mE, .ref mK, .ref mV, .int dr, .int dc, .int ds, .int ru, .int cl, .ref mO, .int os, .int fc, .ref mA, .ref mB, .ref mU, .ref mW, .int pi, .int wh, .long ms, .int aq, .int da, .ref mX, .ref mY, .long lu, .long ld, .long qu, .long qd]))] H := hP
    have hD : va_D A [(oM, .inr (8, [.int th, .ref mT, .int ml, .int ma, .int mk, .int mp, .long mv, .int mw, .ref mN, .ref mD, .ref mF, .ref mS, .ref mL, .ref mR, .ref mE, .ref mK, .ref mV, .int dr, .int dc, .int ds, .int ru, .int cl, .ref mO, .int os, .int fc, .ref mA, .ref mB, .ref mU, .ref mW, .int pi, .int wh, .long ms, .int aq, .int da, .ref mX, .ref mY, .long lu, .long ld, .long qu, .long qd]))] := hD
    have hP9 := hP.sub (ws' := [(oM, .inr (8, [.int th, .ref mT, .int ml, .int ma, .int mk, .int mp, .long mv, .int mw, .ref mN, .ref mD, .ref mF, .ref mS, .ref mL, .ref mR, .ref mE, .ref mK, .ref mV, .int dr, .int dc, .int ds, .int ru, .int cl, .ref mO, .int os, .int fc, .ref mA, .ref mB, .ref mU, .ref mW, .int pi, .int wh, .long ms, .int aq, .int da, .ref mX, .ref mY, .long lu, .long ld, .long qu, .long qd]))]) [0] rfl
    have hD9 := hD.sub (ws' := [(oM, .inr (8, [.int th, .ref mT, .int ml, .int ma, .int mk, .int mp, .long mv, .int mw, .ref mN, .ref mD, .ref mF, .ref mS, .ref mL, .ref mR, .ref mE, .ref mK, .ref mV, .int dr, .int dc, .int ds, .int ru, .int cl, .ref mO, .int os, .int fc, .ref mA, .ref mB, .ref mU, .ref mW, .int pi, .int wh, .long ms, .int aq, .int da, .ref mX, .ref mY, .long lu, .long ld, .long qu, .long qd]))]) [0] (by decide) rfl
    exact W.vret hx hb hr (fun t ht hW => ⟨⟨wh, rfl, by rw [hF], by rw [ht]; exact hP9, hD9⟩, hS.F ht⟩) hS.2.2 d_Model_stop_19
  · have hF := hF.trans (if_pos c_1)
    have tc_1 := ti_eq (Eq.refl wh.toInt) (show (0 : Int32).toInt = 0 by decide) c_1
    refine lv_iload_n hx hb d_Model_stop_8 rfl (lv_at hl 1 rfl) ?_
    refine lv_goto (tgt := 16) hx hb d_Model_stop_9 (by decide) ?_
    refine va_put (D := (dC, dI)) (ci := 8) (v := .int rs) (ty := .int) (C := "PermitRulesModel") (T := T_Model) (N := 40) hx hb htb in_Model ty_Model to_Model nm_Model hown hK hP hD hS 0 rfl rfl 30 (by decide) (htb _ mb_683) (fun _ h9 => h9) rfl (by decide +kernel) rfl rfl (Nat.le_of_ble_eq_true rfl) d_Model_stop_16 (fun H locs hP hD hS => ?_)
    have hP : va_P (dC, dI) vwCl [(oM, .inr (8, [.int th, .ref mT, .int ml, .int ma, .int mk, .int mp, .long mv, .int mw, .ref mN, .ref mD, .ref mF, .ref mS, .ref mL, .ref mR, .ref mE, .ref mK, .ref mV, .int dr, .int dc, .int ds, .int ru, .int cl, .ref mO, .int os, .int fc, .ref mA, .ref mB, .ref mU, .ref mW, .int pi, .int rs, .long ms, .int aq, .int da, .ref mX, .ref mY, .long lu, .long ld, .long qu, .long qd]))] H := hP
    have hD : va_D A [(oM, .inr (8, [.int th, .ref mT, .int ml, .int ma, .int mk, .int mp, .long mv, .int mw, .ref mN, .ref mD, .ref mF, .ref mS, .ref mL, .ref mR, .ref mE, .ref mK, .ref mV, .int dr, .int dc, .int ds, .int ru, .int cl, .ref mO, .int os, .int fc, .ref mA, .ref mB, .ref mU, .ref mW, .int pi, .int rs, .long ms, .int aq, .int da, .ref mX, .ref mY, .long lu, .long ld, .long qu, .long qd]))] := hD
    have hP9 := hP.sub (ws' := [(oM, .inr (8, [.int th, .ref mT, .int ml, .int ma, .int mk, .int mp, .long mv, .int mw, .ref mN, .ref mD, .ref mF, .ref mS, .ref mL, .ref mR, .ref mE, .ref mK, .ref mV, .int dr, .int dc, .int ds, .int ru, .int cl, .ref mO, .int os, .int fc, .ref mA, .ref mB, .ref mU, .ref mW, .int pi, .int rs, .long ms, .int aq, .int da, .ref mX, .ref mY, .long lu, .long ld, .long qu, .long qd]))]) [0] rfl
    have hD9 := hD.sub (ws' := [(oM, .inr (8, [.int th, .ref mT, .int ml, .int ma, .int mk, .int mp, .long mv, .int mw, .ref mN, .ref mD, .ref mF, .ref mS, .ref mL, .ref mR, .ref mE, .ref mK, .ref mV, .int dr, .int dc, .int ds, .int ru, .int cl, .ref mO, .int os, .int fc, .ref mA, .ref mB, .ref mU, .ref mW, .int pi, .int rs, .long ms, .int aq, .int da, .ref mX, .ref mY, .long lu, .long ld, .long qu, .long qd]))]) [0] (by decide) rfl
    exact W.vret hx hb hr (fun t ht hW => ⟨⟨rs, rfl, by rw [hF], by rw [ht]; exact hP9, hD9⟩, hS.F ht⟩) hS.2.2 d_Model_stop_19
def f_Model_times (va : Int64) (vb : Int64) (wh : Int32) : Int64 × Int32 := (if (lg_cmp va 0) = 0 then (va * vb, wh) else (if (lg_cmp ((va * vb) / va) vb) = 0 then (if (lg_cmp va (-1)) = 0 then (if (lg_cmp vb (-9223372036854775808)) = 0 then (lt_ (f_Model_stop 2 wh) fun z_10 => (va * vb, z_10)) else (va * vb, wh)) else (va * vb, wh)) else (lt_ (f_Model_stop 2 wh) fun z_5 => (va * vb, z_5))))
abbrev q_Model_times (dC : Nat → ClassId) (dI : Nat → Nat → Nat) (cB cI cJ : ClassId) (oM mT mN mD mF mS mL mR mE mK mV mO mA mB mU mW mX mY : Nat) (va : Int64) (vb : Int64) (th : Int32) (ml : Int32) (ma : Int32) (mk : Int32) (mp : Int32) (mv : Int64) (mw : Int32) (dr : Int32) (dc : Int32) (ds : Int32) (ru : Int32) (cl : Int32) (os : Int32) (fc : Int32) (pi : Int32) (wh : Int32) (ms : Int64) (aq : Int32) (da : Int32) (lu : Int64) (ld : Int64) (qu : Int64) (qd : Int64) (A : Nat → Prop) : Array Value → State → Outcome → State → Prop := va_Ql (fun (r : Int64) (u : Int32) => r = (f_Model_times va vb wh).1 ∧ u = (f_Model_times va vb wh).2) (fun u t => va_P (dC, dI) vwCl [(oM, .inr (8, [.int th, .ref mT, .int ml, .int ma, .int mk, .int mp, .long mv, .int mw, .ref mN, .ref mD, .ref mF, .ref mS, .ref mL, .ref mR, .ref mE, .ref mK, .ref mV, .int dr, .int dc, .int ds, .int ru, .int cl, .ref mO, .int os, .int fc, .ref mA, .ref mB, .ref mU, .ref mW, .int pi, .int u, .long ms, .int aq, .int da, .ref mX, .ref mY, .long lu, .long ld, .long qu, .long qd]))] t.heap ∧ va_D A [(oM, .inr (8, [.int th, .ref mT, .int ml, .int ma, .int mk, .int mp, .long mv, .int mw, .ref mN, .ref mD, .ref mF, .ref mS, .ref mL, .ref mR, .ref mE, .ref mK, .ref mV, .int dr, .int dc, .int ds, .int ru, .int cl, .ref mO, .int os, .int fc, .ref mA, .ref mB, .ref mU, .ref mW, .int pi, .int u, .long ms, .int aq, .int da, .ref mX, .ref mY, .long lu, .long ld, .long qu, .long qd]))]) A
set_option maxHeartbeats 4000000 in
set_option maxRecDepth 100000 in
theorem c_Model_times (l : Launch) (dC : Nat → ClassId) (dI : Nat → Nat → Nat) (cB cI cJ : ClassId) (oM mT mN mD mF mS mL mR mE mK mV mO mA mB mU mW mX mY : Nat) (sz : Nat) (va : Int64) (vb : Int64) (th : Int32) (ml : Int32) (ma : Int32) (mk : Int32) (mp : Int32) (mv : Int64) (mw : Int32) (dr : Int32) (dc : Int32) (ds : Int32) (ru : Int32) (cl : Int32) (os : Int32) (fc : Int32) (pi : Int32) (wh : Int32) (ms : Int64) (aq : Int32) (da : Int32) (lu : Int64) (ld : Int64) (qu : Int64) (qd : Int64) : Met l y_Model_times (cw_Model_times :: bgw) { frames := 1, cells := 0, slots := 0, locals := 21 } (va_Pc [.ref oM, .long va, .long vb] (kb_B dC dI cB cI cJ [(oM, .inr (8, [.int th, .ref mT, .int ml, .int ma, .int mk, .int mp, .long mv, .int mw, .ref mN, .ref mD, .ref mF, .ref mS, .ref mL, .ref mR, .ref mE, .ref mK, .ref mV, .int dr, .int dc, .int ds, .int ru, .int cl, .ref mO, .int os, .int fc, .ref mA, .ref mB, .ref mU, .ref mW, .int pi, .int wh, .long ms, .int aq, .int da, .ref mX, .ref mY, .long lu, .long ld, .long qu, .long qd]))] sz)) (q_Model_times dC dI cB cI cJ oM mT mN mD mF mS mL mR mE mK mV mO mA mB mU mW mX mY va vb th ml ma mk mp mv mw dr dc ds ru cl os fc pi wh ms aq da lu ld qu qd (va_A [(oM, .inr (8, [.int th, .ref mT, .int ml, .int ma, .int mk, .int mp, .long mv, .int mw, .ref mN, .ref mD, .ref mF, .ref mS, .ref mL, .ref mR, .ref mE, .ref mK, .ref mV, .int dr, .int dc, .int ds, .int ru, .int cl, .ref mO, .int os, .int fc, .ref mA, .ref mB, .ref mU, .ref mW, .int pi, .int wh, .long ms, .int aq, .int da, .ref mX, .ref mY, .long lu, .long ld, .long qu, .long qd]))] sz)) 0 0 (va_A [(oM, .inr (8, [.int th, .ref mT, .int ml, .int ma, .int mk, .int mp, .long mv, .int mw, .ref mN, .ref mD, .ref mF, .ref mS, .ref mL, .ref mR, .ref mE, .ref mK, .ref mV, .int dr, .int dc, .int ds, .int ru, .int cl, .ref mO, .int os, .int fc, .ref mA, .ref mB, .ref mU, .ref mW, .int pi, .int wh, .long ms, .int aq, .int da, .ref mX, .ref mY, .long lu, .long ld, .long qu, .long qd]))] sz) := by
  refine Met.ofW (cc := prog_10_method_24_code) (maxL := 8) (ret := (some .long)) (by decide) rfl ?_
  intro p e s m args below meth c s₁ B hml hv
  obtain ⟨rfl, hsz, hP, hKx, hD0⟩ := hv
  have hx := B.exec
  have hb := B.bytes
  have hr := B.returns
  have hts := atoms_spec (ws := (cw_Model_times :: bgw)) B.pre
  have hown : s.vm.findClass "PermitRulesModel" = some m.cls := findClass_of_methodNamed B.named
  have hlocks := B.notSynchronized
  have htb := fun (w : Cond) (h : w ∈ bgw) => hts w (List.mem_cons_of_mem _ h)
  have hK := hKx.1
  subst hsz
  have hD := hD0.self (sz := s.heap.size)
  generalize hAe : va_A [(oM, .inr (8, [.int th, .ref mT, .int ml, .int ma, .int mk, .int mp, .long mv, .int mw, .ref mN, .ref mD, .ref mF, .ref mS, .ref mL, .ref mR, .ref mE, .ref mK, .ref mV, .int dr, .int dc, .int ds, .int ru, .int cl, .ref mO, .int os, .int fc, .ref mA, .ref mB, .ref mU, .ref mW, .int pi, .int wh, .long ms, .int aq, .int da, .ref mX, .ref mY, .long lu, .long ld, .long qu, .long qd]))] s.heap.size = A at hD ⊢
  have hA : ∀ q : Nat, s.heap.size ≤ q → A q := fun q h => by rw [← hAe]; exact Or.inr h
  have hS : va_S A s.heap s.heap [] := va_S.rf
  have hl := lv_entry ([.ref oM, .long va, .long vb]) (n := 8) (Nat.le_of_ble_eq_true rfl)
  rw [lg_entry_eq]
  generalize (lg_sl ([.ref oM, .long va, .long vb]) ++ List.replicate (8 - (lg_sl ([.ref oM, .long va, .long vb])).length) Slot.unset).toArray = ls at hl ⊢
  have hl : lv_has ls 8 [(0, .ref oM), (1, .long va), (3, .long vb)] := hl
  have hP : va_P (dC, dI) vwCl [(oM, .inr (8, [.int th, .ref mT, .int ml, .int ma, .int mk, .int mp, .long mv, .int mw, .ref mN, .ref mD, .ref mF, .ref mS, .ref mL, .ref mR, .ref mE, .ref mK, .ref mV, .int dr, .int dc, .int ds, .int ru, .int cl, .ref mO, .int os, .int fc, .ref mA, .ref mB, .ref mU, .ref mW, .int pi, .int wh, .long ms, .int aq, .int da, .ref mX, .ref mY, .long lu, .long ld, .long qu, .long qd]))] s.heap := hP
  have hF : f_Model_times va vb wh = (if (lg_cmp va 0) = 0 then (va * vb, wh) else (if (lg_cmp ((va * vb) / va) vb) = 0 then (if (lg_cmp va (-1)) = 0 then (if (lg_cmp vb (-9223372036854775808)) = 0 then (lt_ (f_Model_stop 2 wh) fun z_10 => (va * vb, z_10)) else (va * vb, wh)) else (va * vb, wh)) else (lt_ (f_Model_stop 2 wh) fun z_5 => (va * vb, z_5)))) := rfl
  refine lv_lload_n hx hb d_Model_times_0 rfl (lv_at hl 1 rfl) ?_
  refine lv_lload_n hx hb d_Model_times_1 rfl (lv_at hl 2 rfl) ?_
  refine lv_lmul hx hb d_Model_times_2 ?_
  refine lv_lstore (lv' := [(5, .long (va * vb)), (0, .ref oM), (1, .long va), (3, .long vb)]) hx hb d_Model_times_3 hl (by decide) rfl (fun ls hl => ?_)
  refine lv_lload_n hx hb d_Model_times_5 rfl (lv_at hl 2 rfl) ?_
  refine lv_lconst (v := 0) hx hb d_Model_times_6 (by decide) ?_
  refine W.lcmp hx hb d_Model_times_7 ?_
  refine lv_if_eq (tgt := 36) hx hb d_Model_times_8 (by decide) (fun c_1 => ?_) (fun c_1 => ?_)
  · have hF := hF.trans (if_pos c_1)
    refine lv_iconst (v := 1) hx hb d_Model_times_36 (by decide) ?_
    refine lv_goto (tgt := 41) hx hb d_Model_times_37 (by decide) ?_
    refine lv_istore (lv' := [(7, .int 1), (5, .long (va * vb)), (0, .ref oM), (1, .long va), (3, .long vb)]) hx hb d_Model_times_41 hl (by decide) rfl (fun ls hl => ?_)
    refine lv_iload hx hb d_Model_times_43 (lv_at hl 0 rfl) ?_
    refine lv_if_ne (tgt := 53) hx hb d_Model_times_45 (by decide) (fun c_2 => ?_) (fun c_2 => ?_)
    · skip
      refine lv_lload hx hb d_Model_times_53 (lv_at hl 1 rfl) ?_
      have hP9 := hP.sub (ws' := [(oM, .inr (8, [.int th, .ref mT, .int ml, .int ma, .int mk, .int mp, .long mv, .int mw, .ref mN, .ref mD, .ref mF, .ref mS, .ref mL, .ref mR, .ref mE, .ref mK, .ref mV, .int dr, .int dc, .int ds, .int ru, .int cl, .ref mO, .int os, .int fc, .ref mA, .ref mB, .ref mU, .ref mW, .int pi, .int wh, .long ms, .int aq, .int da, .ref mX, .ref mY, .long lu, .long ld, .long qu, .long qd]))]) [0] rfl
      have hD9 := hD.sub (ws' := [(oM, .inr (8, [.int th, .ref mT, .int ml, .int ma, .int mk, .int mp, .long mv, .int mw, .ref mN, .ref mD, .ref mF, .ref mS, .ref mL, .ref mR, .ref mE, .ref mK, .ref mV, .int dr, .int dc, .int ds, .int ru, .int cl, .ref mO, .int os, .int fc, .ref mA, .ref mB, .ref mU, .ref mW, .int pi, .int wh, .long ms, .int aq, .int da, .ref mX, .ref mY, .long lu, .long ld, .long qu, .long qd]))]) [0] (by decide) rfl
      exact W.lret (v := va * vb) hx hb hr (fun t ht hW => ⟨⟨va * vb, wh, rfl, ⟨by rw [hF], by rw [hF]⟩, by rw [ht]; exact hP9, hD9⟩, hS.F ht⟩) hS.2.2 d_Model_times_55
    · exact absurd c_2 (by decide)
  · have hF := hF.trans (if_neg c_1)
    refine lv_lload hx hb d_Model_times_11 (lv_at hl 0 rfl) ?_
    refine lv_lload_n hx hb d_Model_times_13 rfl (lv_at hl 2 rfl) ?_
    refine lv_ldiv hx hb d_Model_times_14 (oi_nz c_1) ?_
    refine lv_lload_n hx hb d_Model_times_15 rfl (lv_at hl 3 rfl) ?_
    refine W.lcmp hx hb d_Model_times_16 ?_
    refine lv_if_ne (tgt := 40) hx hb d_Model_times_17 (by decide) (fun c_3 => ?_) (fun c_3 => ?_)
    · have hF := hF.trans (if_neg c_3)
      refine lv_iconst (v := 0) hx hb d_Model_times_40 (by decide) ?_
      refine lv_istore (lv' := [(7, .int 0), (5, .long (va * vb)), (0, .ref oM), (1, .long va), (3, .long vb)]) hx hb d_Model_times_41 hl (by decide) rfl (fun ls hl => ?_)
      refine lv_iload hx hb d_Model_times_43 (lv_at hl 0 rfl) ?_
      refine lv_if_ne (tgt := 53) hx hb d_Model_times_45 (by decide) (fun c_4 => ?_) (fun c_4 => ?_)
      · exact absurd (by decide) c_4
      · skip
        refine lv_aload_n hx hb d_Model_times_48 rfl (lv_at hl 2 rfl) ?_
        refine lv_iconst (v := 2) hx hb d_Model_times_49 (by decide) ?_
        have hPc := hP.sub (ws' := [(oM, .inr (8, [.int th, .ref mT, .int ml, .int ma, .int mk, .int mp, .long mv, .int mw, .ref mN, .ref mD, .ref mF, .ref mS, .ref mL, .ref mR, .ref mE, .ref mK, .ref mV, .int dr, .int dc, .int ds, .int ru, .int cl, .ref mO, .int os, .int fc, .ref mA, .ref mB, .ref mU, .ref mW, .int pi, .int wh, .long ms, .int aq, .int da, .ref mX, .ref mY, .long lu, .long ld, .long qu, .long qd]))]) [0] rfl
        have hDc := hD.sub (ws' := [(oM, .inr (8, [.int th, .ref mT, .int ml, .int ma, .int mk, .int mp, .long mv, .int mw, .ref mN, .ref mD, .ref mF, .ref mS, .ref mL, .ref mR, .ref mE, .ref mK, .ref mV, .int dr, .int dc, .int ds, .int ru, .int cl, .ref mO, .int os, .int fc, .ref mA, .ref mB, .ref mU, .ref mW, .int pi, .int wh, .long ms, .int aq, .int da, .ref mX, .ref mY, .long lu, .long ld, .long qu, .long qd]))]) [0] (by decide) rfl
        have hFc := va_free (wc := [(oM, .inr (8, [.int th, .ref mT, .int ml, .int ma, .int mk, .int mp, .long mv, .int mw, .ref mN, .ref mD, .ref mF, .ref mS, .ref mL, .ref mR, .ref mE, .ref mK, .ref mV, .int dr, .int dc, .int ds, .int ru, .int cl, .ref mO, .int os, .int fc, .ref mA, .ref mB, .ref mU, .ref mW, .int pi, .int wh, .long ms, .int aq, .int da, .ref mX, .ref mY, .long lu, .long ld, .long qu, .long qd]))]) hD hS hA [0] rfl
        refine va_callv (va_runV (As := [.int 2]) (rest := []) ⟨hx, hb, hml, hown, htb⟩ (c_Model_stop l dC dI cB cI cJ oM mT mN mD mF mS mL mR mE mK mV mO mA mB mU mW mX mY _ 2 th ml ma mk mp mv mw dr dc ds ru cl os fc pi wh ms aq da lu ld qu qd ) ⟨callB_of 1 htb (gb_all mb_894) rfl rfl rfl (htb _ mb_9) (htb _ mb_891) (by decide +kernel) ⟨Nat.le_of_ble_eq_true rfl, Nat.le_of_ble_eq_true rfl⟩, htb _ mb_893, htb _ mp_32⟩ ⟨kb_blind, va_recv hK hPc (ci := 8) (q0 := 0) rfl rfl, kb_at hPc hDc hKx⟩ rfl rfl hl.1 rfl (lv_room (Nat.le_of_ble_eq_true rfl)) d_Model_times_50 ⟨Nat.le_of_ble_eq_true rfl, Nat.le_of_ble_eq_true rfl⟩) hS (fun q _ h => hFc q h) hFc (fun z_5 t H1 locs ht hvm hw hB hz1 hk1 hS => ?_)
        have hz_5 := hw
        have hF := hF.trans (lt_e hz_5)
        obtain ⟨hP1, hD1⟩ := hB
        rw [ht] at hP1
        obtain ⟨hP, hD⟩ := va_join (wr := []) (w1 := [(oM, .inr (8, [.int th, .ref mT, .int ml, .int ma, .int mk, .int mp, .long mv, .int mw, .ref mN, .ref mD, .ref mF, .ref mS, .ref mL, .ref mR, .ref mE, .ref mK, .ref mV, .int dr, .int dc, .int ds, .int ru, .int cl, .ref mO, .int os, .int fc, .ref mA, .ref mB, .ref mU, .ref mW, .int pi, .int z_5, .long ms, .int aq, .int da, .ref mX, .ref mY, .long lu, .long ld, .long qu, .long qd]))]) hP hD [0] [] rfl rfl (by decide) (by decide) hk1 hFc hP1 hD1
        generalize H1 = H at hP hS ⊢
        have hP : va_P (dC, dI) vwCl [(oM, .inr (8, [.int th, .ref mT, .int ml, .int ma, .int mk, .int mp, .long mv, .int mw, .ref mN, .ref mD, .ref mF, .ref mS, .ref mL, .ref mR, .ref mE, .ref mK, .ref mV, .int dr, .int dc, .int ds, .int ru, .int cl, .ref mO, .int os, .int fc, .ref mA, .ref mB, .ref mU, .ref mW, .int pi, .int z_5, .long ms, .int aq, .int da, .ref mX, .ref mY, .long lu, .long ld, .long qu, .long qd]))] H := hP
        have hD : va_D A [(oM, .inr (8, [.int th, .ref mT, .int ml, .int ma, .int mk, .int mp, .long mv, .int mw, .ref mN, .ref mD, .ref mF, .ref mS, .ref mL, .ref mR, .ref mE, .ref mK, .ref mV, .int dr, .int dc, .int ds, .int ru, .int cl, .ref mO, .int os, .int fc, .ref mA, .ref mB, .ref mU, .ref mW, .int pi, .int z_5, .long ms, .int aq, .int da, .ref mX, .ref mY, .long lu, .long ld, .long qu, .long qd]))] := hD
        refine lv_lload hx hb d_Model_times_53 (lv_at hl 1 rfl) ?_
        have hP9 := hP.sub (ws' := [(oM, .inr (8, [.int th, .ref mT, .int ml, .int ma, .int mk, .int mp, .long mv, .int mw, .ref mN, .ref mD, .ref mF, .ref mS, .ref mL, .ref mR, .ref mE, .ref mK, .ref mV, .int dr, .int dc, .int ds, .int ru, .int cl, .ref mO, .int os, .int fc, .ref mA, .ref mB, .ref mU, .ref mW, .int pi, .int z_5, .long ms, .int aq, .int da, .ref mX, .ref mY, .long lu, .long ld, .long qu, .long qd]))]) [0] rfl
        have hD9 := hD.sub (ws' := [(oM, .inr (8, [.int th, .ref mT, .int ml, .int ma, .int mk, .int mp, .long mv, .int mw, .ref mN, .ref mD, .ref mF, .ref mS, .ref mL, .ref mR, .ref mE, .ref mK, .ref mV, .int dr, .int dc, .int ds, .int ru, .int cl, .ref mO, .int os, .int fc, .ref mA, .ref mB, .ref mU, .ref mW, .int pi, .int z_5, .long ms, .int aq, .int da, .ref mX, .ref mY, .long lu, .long ld, .long qu, .long qd]))]) [0] (by decide) rfl
        exact W.lret (v := va * vb) hx hb hr (fun t ht hW => ⟨⟨va * vb, z_5, rfl, ⟨by rw [hF], by rw [hF]⟩, by rw [ht]; exact hP9, hD9⟩, hS.F ht⟩) hS.2.2 d_Model_times_55
    · have hF := hF.trans (if_pos c_3)
      refine lv_lload_n hx hb d_Model_times_20 rfl (lv_at hl 2 rfl) ?_
      refine lv_ldc2 (v := (-1)) hx hb hown (htb _ mb_903) d_Model_times_21 ?_
      refine W.lcmp hx hb d_Model_times_24 ?_
      refine lv_if_ne (tgt := 36) hx hb d_Model_times_25 (by decide) (fun c_6 => ?_) (fun c_6 => ?_)
      · have hF := hF.trans (if_neg c_6)
        refine lv_iconst (v := 1) hx hb d_Model_times_36 (by decide) ?_
        refine lv_goto (tgt := 41) hx hb d_Model_times_37 (by decide) ?_
        refine lv_istore (lv' := [(7, .int 1), (5, .long (va * vb)), (0, .ref oM), (1, .long va), (3, .long vb)]) hx hb d_Model_times_41 hl (by decide) rfl (fun ls hl => ?_)
        refine lv_iload hx hb d_Model_times_43 (lv_at hl 0 rfl) ?_
        refine lv_if_ne (tgt := 53) hx hb d_Model_times_45 (by decide) (fun c_7 => ?_) (fun c_7 => ?_)
        · skip
          refine lv_lload hx hb d_Model_times_53 (lv_at hl 1 rfl) ?_
          have hP9 := hP.sub (ws' := [(oM, .inr (8, [.int th, .ref mT, .int ml, .int ma, .int mk, .int mp, .long mv, .int mw, .ref mN, .ref mD, .ref mF, .ref mS, .ref mL, .ref mR, .ref mE, .ref mK, .ref mV, .int dr, .int dc, .int ds, .int ru, .int cl, .ref mO, .int os, .int fc, .ref mA, .ref mB, .ref mU, .ref mW, .int pi, .int wh, .long ms, .int aq, .int da, .ref mX, .ref mY, .long lu, .long ld, .long qu, .long qd]))]) [0] rfl
          have hD9 := hD.sub (ws' := [(oM, .inr (8, [.int th, .ref mT, .int ml, .int ma, .int mk, .int mp, .long mv, .int mw, .ref mN, .ref mD, .ref mF, .ref mS, .ref mL, .ref mR, .ref mE, .ref mK, .ref mV, .int dr, .int dc, .int ds, .int ru, .int cl, .ref mO, .int os, .int fc, .ref mA, .ref mB, .ref mU, .ref mW, .int pi, .int wh, .long ms, .int aq, .int da, .ref mX, .ref mY, .long lu, .long ld, .long qu, .long qd]))]) [0] (by decide) rfl
          exact W.lret (v := va * vb) hx hb hr (fun t ht hW => ⟨⟨va * vb, wh, rfl, ⟨by rw [hF], by rw [hF]⟩, by rw [ht]; exact hP9, hD9⟩, hS.F ht⟩) hS.2.2 d_Model_times_55
        · exact absurd c_7 (by decide)
      · have hF := hF.trans (if_pos c_6)
        refine lv_lload_n hx hb d_Model_times_28 rfl (lv_at hl 3 rfl) ?_
        refine lv_ldc2 (v := (-9223372036854775808)) hx hb hown (htb _ mb_886) d_Model_times_29 ?_
        refine W.lcmp hx hb d_Model_times_32 ?_
        refine lv_if_eq (tgt := 40) hx hb d_Model_times_33 (by decide) (fun c_8 => ?_) (fun c_8 => ?_)
        · have hF := hF.trans (if_pos c_8)
          refine lv_iconst (v := 0) hx hb d_Model_times_40 (by decide) ?_
          refine lv_istore (lv' := [(7, .int 0), (5, .long (va * vb)), (0, .ref oM), (1, .long va), (3, .long vb)]) hx hb d_Model_times_41 hl (by decide) rfl (fun ls hl => ?_)
          refine lv_iload hx hb d_Model_times_43 (lv_at hl 0 rfl) ?_
          refine lv_if_ne (tgt := 53) hx hb d_Model_times_45 (by decide) (fun c_9 => ?_) (fun c_9 => ?_)
          · exact absurd (by decide) c_9
          · skip
            refine lv_aload_n hx hb d_Model_times_48 rfl (lv_at hl 2 rfl) ?_
            refine lv_iconst (v := 2) hx hb d_Model_times_49 (by decide) ?_
            have hPc := hP.sub (ws' := [(oM, .inr (8, [.int th, .ref mT, .int ml, .int ma, .int mk, .int mp, .long mv, .int mw, .ref mN, .ref mD, .ref mF, .ref mS, .ref mL, .ref mR, .ref mE, .ref mK, .ref mV, .int dr, .int dc, .int ds, .int ru, .int cl, .ref mO, .int os, .int fc, .ref mA, .ref mB, .ref mU, .ref mW, .int pi, .int wh, .long ms, .int aq, .int da, .ref mX, .ref mY, .long lu, .long ld, .long qu, .long qd]))]) [0] rfl
            have hDc := hD.sub (ws' := [(oM, .inr (8, [.int th, .ref mT, .int ml, .int ma, .int mk, .int mp, .long mv, .int mw, .ref mN, .ref mD, .ref mF, .ref mS, .ref mL, .ref mR, .ref mE, .ref mK, .ref mV, .int dr, .int dc, .int ds, .int ru, .int cl, .ref mO, .int os, .int fc, .ref mA, .ref mB, .ref mU, .ref mW, .int pi, .int wh, .long ms, .int aq, .int da, .ref mX, .ref mY, .long lu, .long ld, .long qu, .long qd]))]) [0] (by decide) rfl
            have hFc := va_free (wc := [(oM, .inr (8, [.int th, .ref mT, .int ml, .int ma, .int mk, .int mp, .long mv, .int mw, .ref mN, .ref mD, .ref mF, .ref mS, .ref mL, .ref mR, .ref mE, .ref mK, .ref mV, .int dr, .int dc, .int ds, .int ru, .int cl, .ref mO, .int os, .int fc, .ref mA, .ref mB, .ref mU, .ref mW, .int pi, .int wh, .long ms, .int aq, .int da, .ref mX, .ref mY, .long lu, .long ld, .long qu, .long qd]))]) hD hS hA [0] rfl
            refine va_callv (va_runV (As := [.int 2]) (rest := []) ⟨hx, hb, hml, hown, htb⟩ (c_Model_stop l dC dI cB cI cJ oM mT mN mD mF mS mL mR mE mK mV mO mA mB mU mW mX mY _ 2 th ml ma mk mp mv mw dr dc ds ru cl os fc pi wh ms aq da lu ld qu qd ) ⟨callB_of 1 htb (gb_all mb_894) rfl rfl rfl (htb _ mb_9) (htb _ mb_891) (by decide +kernel) ⟨Nat.le_of_ble_eq_true rfl, Nat.le_of_ble_eq_true rfl⟩, htb _ mb_893, htb _ mp_32⟩ ⟨kb_blind, va_recv hK hPc (ci := 8) (q0 := 0) rfl rfl, kb_at hPc hDc hKx⟩ rfl rfl hl.1 rfl (lv_room (Nat.le_of_ble_eq_true rfl)) d_Model_times_50 ⟨Nat.le_of_ble_eq_true rfl, Nat.le_of_ble_eq_true rfl⟩) hS (fun q _ h => hFc q h) hFc (fun z_10 t H1 locs ht hvm hw hB hz1 hk1 hS => ?_)
            have hz_10 := hw
            have hF := hF.trans (lt_e hz_10)
            obtain ⟨hP1, hD1⟩ := hB
            rw [ht] at hP1
            obtain ⟨hP, hD⟩ := va_join (wr := []) (w1 := [(oM, .inr (8, [.int th, .ref mT, .int ml, .int ma, .int mk, .int mp, .long mv, .int mw, .ref mN, .ref mD, .ref mF, .ref mS, .ref mL, .ref mR, .ref mE, .ref mK, .ref mV, .int dr, .int dc, .int ds, .int ru, .int cl, .ref mO, .int os, .int fc, .ref mA, .ref mB, .ref mU, .ref mW, .int pi, .int z_10, .long ms, .int aq, .int da, .ref mX, .ref mY, .long lu, .long ld, .long qu, .long qd]))]) hP hD [0] [] rfl rfl (by decide) (by decide) hk1 hFc hP1 hD1
            generalize H1 = H at hP hS ⊢
            have hP : va_P (dC, dI) vwCl [(oM, .inr (8, [.int th, .ref mT, .int ml, .int ma, .int mk, .int mp, .long mv, .int mw, .ref mN, .ref mD, .ref mF, .ref mS, .ref mL, .ref mR, .ref mE, .ref mK, .ref mV, .int dr, .int dc, .int ds, .int ru, .int cl, .ref mO, .int os, .int fc, .ref mA, .ref mB, .ref mU, .ref mW, .int pi, .int z_10, .long ms, .int aq, .int da, .ref mX, .ref mY, .long lu, .long ld, .long qu, .long qd]))] H := hP
            have hD : va_D A [(oM, .inr (8, [.int th, .ref mT, .int ml, .int ma, .int mk, .int mp, .long mv, .int mw, .ref mN, .ref mD, .ref mF, .ref mS, .ref mL, .ref mR, .ref mE, .ref mK, .ref mV, .int dr, .int dc, .int ds, .int ru, .int cl, .ref mO, .int os, .int fc, .ref mA, .ref mB, .ref mU, .ref mW, .int pi, .int z_10, .long ms, .int aq, .int da, .ref mX, .ref mY, .long lu, .long ld, .long qu, .long qd]))] := hD
            refine lv_lload hx hb d_Model_times_53 (lv_at hl 1 rfl) ?_
            have hP9 := hP.sub (ws' := [(oM, .inr (8, [.int th, .ref mT, .int ml, .int ma, .int mk, .int mp, .long mv, .int mw, .ref mN, .ref mD, .ref mF, .ref mS, .ref mL, .ref mR, .ref mE, .ref mK, .ref mV, .int dr, .int dc, .int ds, .int ru, .int cl, .ref mO, .int os, .int fc, .ref mA, .ref mB, .ref mU, .ref mW, .int pi, .int z_10, .long ms, .int aq, .int da, .ref mX, .ref mY, .long lu, .long ld, .long qu, .long qd]))]) [0] rfl
            have hD9 := hD.sub (ws' := [(oM, .inr (8, [.int th, .ref mT, .int ml, .int ma, .int mk, .int mp, .long mv, .int mw, .ref mN, .ref mD, .ref mF, .ref mS, .ref mL, .ref mR, .ref mE, .ref mK, .ref mV, .int dr, .int dc, .int ds, .int ru, .int cl, .ref mO, .int os, .int fc, .ref mA, .ref mB, .ref mU, .ref mW, .int pi, .int z_10, .long ms, .int aq, .int da, .ref mX, .ref mY, .long lu, .long ld, .long qu, .long qd]))]) [0] (by decide) rfl
            exact W.lret (v := va * vb) hx hb hr (fun t ht hW => ⟨⟨va * vb, z_10, rfl, ⟨by rw [hF], by rw [hF]⟩, by rw [ht]; exact hP9, hD9⟩, hS.F ht⟩) hS.2.2 d_Model_times_55
        · have hF := hF.trans (if_neg c_8)
          refine lv_iconst (v := 1) hx hb d_Model_times_36 (by decide) ?_
          refine lv_goto (tgt := 41) hx hb d_Model_times_37 (by decide) ?_
          refine lv_istore (lv' := [(7, .int 1), (5, .long (va * vb)), (0, .ref oM), (1, .long va), (3, .long vb)]) hx hb d_Model_times_41 hl (by decide) rfl (fun ls hl => ?_)
          refine lv_iload hx hb d_Model_times_43 (lv_at hl 0 rfl) ?_
          refine lv_if_ne (tgt := 53) hx hb d_Model_times_45 (by decide) (fun c_11 => ?_) (fun c_11 => ?_)
          · skip
            refine lv_lload hx hb d_Model_times_53 (lv_at hl 1 rfl) ?_
            have hP9 := hP.sub (ws' := [(oM, .inr (8, [.int th, .ref mT, .int ml, .int ma, .int mk, .int mp, .long mv, .int mw, .ref mN, .ref mD, .ref mF, .ref mS, .ref mL, .ref mR, .ref mE, .ref mK, .ref mV, .int dr, .int dc, .int ds, .int ru, .int cl, .ref mO, .int os, .int fc, .ref mA, .ref mB, .ref mU, .ref mW, .int pi, .int wh, .long ms, .int aq, .int da, .ref mX, .ref mY, .long lu, .long ld, .long qu, .long qd]))]) [0] rfl
            have hD9 := hD.sub (ws' := [(oM, .inr (8, [.int th, .ref mT, .int ml, .int ma, .int mk, .int mp, .long mv, .int mw, .ref mN, .ref mD, .ref mF, .ref mS, .ref mL, .ref mR, .ref mE, .ref mK, .ref mV, .int dr, .int dc, .int ds, .int ru, .int cl, .ref mO, .int os, .int fc, .ref mA, .ref mB, .ref mU, .ref mW, .int pi, .int wh, .long ms, .int aq, .int da, .ref mX, .ref mY, .long lu, .long ld, .long qu, .long qd]))]) [0] (by decide) rfl
            exact W.lret (v := va * vb) hx hb hr (fun t ht hW => ⟨⟨va * vb, wh, rfl, ⟨by rw [hF], by rw [hF]⟩, by rw [ht]; exact hP9, hD9⟩, hS.F ht⟩) hS.2.2 d_Model_times_55
          · exact absurd c_11 (by decide)
def f_Model_plus (va : Int64) (vb : Int64) (wh : Int32) : Int64 × Int32 := (if 0 ≤ (lg_cmp ((va ^^^ (va + vb)) &&& (vb ^^^ (va + vb))) 0) then (va + vb, wh) else (lt_ (f_Model_stop 2 wh) fun z_2 => (va + vb, z_2)))
abbrev q_Model_plus (dC : Nat → ClassId) (dI : Nat → Nat → Nat) (cB cI cJ : ClassId) (oM mT mN mD mF mS mL mR mE mK mV mO mA mB mU mW mX mY : Nat) (va : Int64) (vb : Int64) (th : Int32) (ml : Int32) (ma : Int32) (mk : Int32) (mp : Int32) (mv : Int64) (mw : Int32) (dr : Int32) (dc : Int32) (ds : Int32) (ru : Int32) (cl : Int32) (os : Int32) (fc : Int32) (pi : Int32) (wh : Int32) (ms : Int64) (aq : Int32) (da : Int32) (lu : Int64) (ld : Int64) (qu : Int64) (qd : Int64) (A : Nat → Prop) : Array Value → State → Outcome → State → Prop := va_Ql (fun (r : Int64) (u : Int32) => r = (f_Model_plus va vb wh).1 ∧ u = (f_Model_plus va vb wh).2) (fun u t => va_P (dC, dI) vwCl [(oM, .inr (8, [.int th, .ref mT, .int ml, .int ma, .int mk, .int mp, .long mv, .int mw, .ref mN, .ref mD, .ref mF, .ref mS, .ref mL, .ref mR, .ref mE, .ref mK, .ref mV, .int dr, .int dc, .int ds, .int ru, .int cl, .ref mO, .int os, .int fc, .ref mA, .ref mB, .ref mU, .ref mW, .int pi, .int u, .long ms, .int aq, .int da, .ref mX, .ref mY, .long lu, .long ld, .long qu, .long qd]))] t.heap ∧ va_D A [(oM, .inr (8, [.int th, .ref mT, .int ml, .int ma, .int mk, .int mp, .long mv, .int mw, .ref mN, .ref mD, .ref mF, .ref mS, .ref mL, .ref mR, .ref mE, .ref mK, .ref mV, .int dr, .int dc, .int ds, .int ru, .int cl, .ref mO, .int os, .int fc, .ref mA, .ref mB, .ref mU, .ref mW, .int pi, .int u, .long ms, .int aq, .int da, .ref mX, .ref mY, .long lu, .long ld, .long qu, .long qd]))]) A
set_option maxHeartbeats 4000000 in
set_option maxRecDepth 100000 in
theorem c_Model_plus (l : Launch) (dC : Nat → ClassId) (dI : Nat → Nat → Nat) (cB cI cJ : ClassId) (oM mT mN mD mF mS mL mR mE mK mV mO mA mB mU mW mX mY : Nat) (sz : Nat) (va : Int64) (vb : Int64) (th : Int32) (ml : Int32) (ma : Int32) (mk : Int32) (mp : Int32) (mv : Int64) (mw : Int32) (dr : Int32) (dc : Int32) (ds : Int32) (ru : Int32) (cl : Int32) (os : Int32) (fc : Int32) (pi : Int32) (wh : Int32) (ms : Int64) (aq : Int32) (da : Int32) (lu : Int64) (ld : Int64) (qu : Int64) (qd : Int64) : Met l y_Model_plus (cw_Model_plus :: bgw) { frames := 1, cells := 0, slots := 0, locals := 21 } (va_Pc [.ref oM, .long va, .long vb] (kb_B dC dI cB cI cJ [(oM, .inr (8, [.int th, .ref mT, .int ml, .int ma, .int mk, .int mp, .long mv, .int mw, .ref mN, .ref mD, .ref mF, .ref mS, .ref mL, .ref mR, .ref mE, .ref mK, .ref mV, .int dr, .int dc, .int ds, .int ru, .int cl, .ref mO, .int os, .int fc, .ref mA, .ref mB, .ref mU, .ref mW, .int pi, .int wh, .long ms, .int aq, .int da, .ref mX, .ref mY, .long lu, .long ld, .long qu, .long qd]))] sz)) (q_Model_plus dC dI cB cI cJ oM mT mN mD mF mS mL mR mE mK mV mO mA mB mU mW mX mY va vb th ml ma mk mp mv mw dr dc ds ru cl os fc pi wh ms aq da lu ld qu qd (va_A [(oM, .inr (8, [.int th, .ref mT, .int ml, .int ma, .int mk, .int mp, .long mv, .int mw, .ref mN, .ref mD, .ref mF, .ref mS, .ref mL, .ref mR, .ref mE, .ref mK, .ref mV, .int dr, .int dc, .int ds, .int ru, .int cl, .ref mO, .int os, .int fc, .ref mA, .ref mB, .ref mU, .ref mW, .int pi, .int wh, .long ms, .int aq, .int da, .ref mX, .ref mY, .long lu, .long ld, .long qu, .long qd]))] sz)) 0 0 (va_A [(oM, .inr (8, [.int th, .ref mT, .int ml, .int ma, .int mk, .int mp, .long mv, .int mw, .ref mN, .ref mD, .ref mF, .ref mS, .ref mL, .ref mR, .ref mE, .ref mK, .ref mV, .int dr, .int dc, .int ds, .int ru, .int cl, .ref mO, .int os, .int fc, .ref mA, .ref mB, .ref mU, .ref mW, .int pi, .int wh, .long ms, .int aq, .int da, .ref mX, .ref mY, .long lu, .long ld, .long qu, .long qd]))] sz) := by
  refine Met.ofW (cc := prog_10_method_25_code) (maxL := 7) (ret := (some .long)) (by decide) rfl ?_
  intro p e s m args below meth c s₁ B hml hv
  obtain ⟨rfl, hsz, hP, hKx, hD0⟩ := hv
  have hx := B.exec
  have hb := B.bytes
  have hr := B.returns
  have hts := atoms_spec (ws := (cw_Model_plus :: bgw)) B.pre
  have hown : s.vm.findClass "PermitRulesModel" = some m.cls := findClass_of_methodNamed B.named
  have hlocks := B.notSynchronized
  have htb := fun (w : Cond) (h : w ∈ bgw) => hts w (List.mem_cons_of_mem _ h)
  have hK := hKx.1
  subst hsz
  have hD := hD0.self (sz := s.heap.size)
  generalize hAe : va_A [(oM, .inr (8, [.int th, .ref mT, .int ml, .int ma, .int mk, .int mp, .long mv, .int mw, .ref mN, .ref mD, .ref mF, .ref mS, .ref mL, .ref mR, .ref mE, .ref mK, .ref mV, .int dr, .int dc, .int ds, .int ru, .int cl, .ref mO, .int os, .int fc, .ref mA, .ref mB, .ref mU, .ref mW, .int pi, .int wh, .long ms, .int aq, .int da, .ref mX, .ref mY, .long lu, .long ld, .long qu, .long qd]))] s.heap.size = A at hD ⊢
  have hA : ∀ q : Nat, s.heap.size ≤ q → A q := fun q h => by rw [← hAe]; exact Or.inr h
  have hS : va_S A s.heap s.heap [] := va_S.rf
  have hl := lv_entry ([.ref oM, .long va, .long vb]) (n := 7) (Nat.le_of_ble_eq_true rfl)
  rw [lg_entry_eq]
  generalize (lg_sl ([.ref oM, .long va, .long vb]) ++ List.replicate (7 - (lg_sl ([.ref oM, .long va, .long vb])).length) Slot.unset).toArray = ls at hl ⊢
  have hl : lv_has ls 7 [(0, .ref oM), (1, .long va), (3, .long vb)] := hl
  have hP : va_P (dC, dI) vwCl [(oM, .inr (8, [.int th, .ref mT, .int ml, .int ma, .int mk, .int mp, .long mv, .int mw, .ref mN, .ref mD, .ref mF, .ref mS, .ref mL, .ref mR, .ref mE, .ref mK, .ref mV, .int dr, .int dc, .int ds, .int ru, .int cl, .ref mO, .int os, .int fc, .ref mA, .ref mB, .ref mU, .ref mW, .int pi, .int wh, .long ms, .int aq, .int da, .ref mX, .ref mY, .long lu, .long ld, .long qu, .long qd]))] s.heap := hP
  have hF : f_Model_plus va vb wh = (if 0 ≤ (lg_cmp ((va ^^^ (va + vb)) &&& (vb ^^^ (va + vb))) 0) then (va + vb, wh) else (lt_ (f_Model_stop 2 wh) fun z_2 => (va + vb, z_2))) := rfl
  refine lv_lload_n hx hb d_Model_plus_0 rfl (lv_at hl 1 rfl) ?_
  refine lv_lload_n hx hb d_Model_plus_1 rfl (lv_at hl 2 rfl) ?_
  refine lv_ladd hx hb d_Model_plus_2 ?_
  refine lv_lstore (lv' := [(5, .long (va + vb)), (0, .ref oM), (1, .long va), (3, .long vb)]) hx hb d_Model_plus_3 hl (by decide) rfl (fun ls hl => ?_)
  refine lv_lload_n hx hb d_Model_plus_5 rfl (lv_at hl 2 rfl) ?_
  refine lv_lload hx hb d_Model_plus_6 (lv_at hl 0 rfl) ?_
  refine lv_lxor hx hb d_Model_plus_8 ?_
  refine lv_lload_n hx hb d_Model_plus_9 rfl (lv_at hl 3 rfl) ?_
  refine lv_lload hx hb d_Model_plus_10 (lv_at hl 0 rfl) ?_
  refine lv_lxor hx hb d_Model_plus_12 ?_
  refine lv_land hx hb d_Model_plus_13 ?_
  refine lv_lconst (v := 0) hx hb d_Model_plus_14 (by decide) ?_
  refine W.lcmp hx hb d_Model_plus_15 ?_
  refine lv_if_ge (tgt := 24) hx hb d_Model_plus_16 (by decide) (fun c_1 => ?_) (fun c_1 => ?_)
  · have hF := hF.trans (if_pos c_1)
    refine lv_lload hx hb d_Model_plus_24 (lv_at hl 0 rfl) ?_
    have hP9 := hP.sub (ws' := [(oM, .inr (8, [.int th, .ref mT, .int ml, .int ma, .int mk, .int mp, .long mv, .int mw, .ref mN, .ref mD, .ref mF, .ref mS, .ref mL, .ref mR, .ref mE, .ref mK, .ref mV, .int dr, .int dc, .int ds, .int ru, .int cl, .ref mO, .int os, .int fc, .ref mA, .ref mB, .ref mU, .ref mW, .int pi, .int wh, .long ms, .int aq, .int da, .ref mX, .ref mY, .long lu, .long ld, .long qu, .long qd]))]) [0] rfl
    have hD9 := hD.sub (ws' := [(oM, .inr (8, [.int th, .ref mT, .int ml, .int ma, .int mk, .int mp, .long mv, .int mw, .ref mN, .ref mD, .ref mF, .ref mS, .ref mL, .ref mR, .ref mE, .ref mK, .ref mV, .int dr, .int dc, .int ds, .int ru, .int cl, .ref mO, .int os, .int fc, .ref mA, .ref mB, .ref mU, .ref mW, .int pi, .int wh, .long ms, .int aq, .int da, .ref mX, .ref mY, .long lu, .long ld, .long qu, .long qd]))]) [0] (by decide) rfl
    exact W.lret (v := va + vb) hx hb hr (fun t ht hW => ⟨⟨va + vb, wh, rfl, ⟨by rw [hF], by rw [hF]⟩, by rw [ht]; exact hP9, hD9⟩, hS.F ht⟩) hS.2.2 d_Model_plus_26
  · have hF := hF.trans (if_neg c_1)
    refine lv_aload_n hx hb d_Model_plus_19 rfl (lv_at hl 1 rfl) ?_
    refine lv_iconst (v := 2) hx hb d_Model_plus_20 (by decide) ?_
    have hPc := hP.sub (ws' := [(oM, .inr (8, [.int th, .ref mT, .int ml, .int ma, .int mk, .int mp, .long mv, .int mw, .ref mN, .ref mD, .ref mF, .ref mS, .ref mL, .ref mR, .ref mE, .ref mK, .ref mV, .int dr, .int dc, .int ds, .int ru, .int cl, .ref mO, .int os, .int fc, .ref mA, .ref mB, .ref mU, .ref mW, .int pi, .int wh, .long ms, .int aq, .int da, .ref mX, .ref mY, .long lu, .long ld, .long qu, .long qd]))]) [0] rfl
    have hDc := hD.sub (ws' := [(oM, .inr (8, [.int th, .ref mT, .int ml, .int ma, .int mk, .int mp, .long mv, .int mw, .ref mN, .ref mD, .ref mF, .ref mS, .ref mL, .ref mR, .ref mE, .ref mK, .ref mV, .int dr, .int dc, .int ds, .int ru, .int cl, .ref mO, .int os, .int fc, .ref mA, .ref mB, .ref mU, .ref mW, .int pi, .int wh, .long ms, .int aq, .int da, .ref mX, .ref mY, .long lu, .long ld, .long qu, .long qd]))]) [0] (by decide) rfl
    have hFc := va_free (wc := [(oM, .inr (8, [.int th, .ref mT, .int ml, .int ma, .int mk, .int mp, .long mv, .int mw, .ref mN, .ref mD, .ref mF, .ref mS, .ref mL, .ref mR, .ref mE, .ref mK, .ref mV, .int dr, .int dc, .int ds, .int ru, .int cl, .ref mO, .int os, .int fc, .ref mA, .ref mB, .ref mU, .ref mW, .int pi, .int wh, .long ms, .int aq, .int da, .ref mX, .ref mY, .long lu, .long ld, .long qu, .long qd]))]) hD hS hA [0] rfl
    refine va_callv (va_runV (As := [.int 2]) (rest := []) ⟨hx, hb, hml, hown, htb⟩ (c_Model_stop l dC dI cB cI cJ oM mT mN mD mF mS mL mR mE mK mV mO mA mB mU mW mX mY _ 2 th ml ma mk mp mv mw dr dc ds ru cl os fc pi wh ms aq da lu ld qu qd ) ⟨callB_of 1 htb (gb_all mb_894) rfl rfl rfl (htb _ mb_9) (htb _ mb_891) (by decide +kernel) ⟨Nat.le_of_ble_eq_true rfl, Nat.le_of_ble_eq_true rfl⟩, htb _ mb_893, htb _ mp_32⟩ ⟨kb_blind, va_recv hK hPc (ci := 8) (q0 := 0) rfl rfl, kb_at hPc hDc hKx⟩ rfl rfl hl.1 rfl (lv_room (Nat.le_of_ble_eq_true rfl)) d_Model_plus_21 ⟨Nat.le_of_ble_eq_true rfl, Nat.le_of_ble_eq_true rfl⟩) hS (fun q _ h => hFc q h) hFc (fun z_2 t H1 locs ht hvm hw hB hz1 hk1 hS => ?_)
    have hz_2 := hw
    have hF := hF.trans (lt_e hz_2)
    obtain ⟨hP1, hD1⟩ := hB
    rw [ht] at hP1
    obtain ⟨hP, hD⟩ := va_join (wr := []) (w1 := [(oM, .inr (8, [.int th, .ref mT, .int ml, .int ma, .int mk, .int mp, .long mv, .int mw, .ref mN, .ref mD, .ref mF, .ref mS, .ref mL, .ref mR, .ref mE, .ref mK, .ref mV, .int dr, .int dc, .int ds, .int ru, .int cl, .ref mO, .int os, .int fc, .ref mA, .ref mB, .ref mU, .ref mW, .int pi, .int z_2, .long ms, .int aq, .int da, .ref mX, .ref mY, .long lu, .long ld, .long qu, .long qd]))]) hP hD [0] [] rfl rfl (by decide) (by decide) hk1 hFc hP1 hD1
    generalize H1 = H at hP hS ⊢
    have hP : va_P (dC, dI) vwCl [(oM, .inr (8, [.int th, .ref mT, .int ml, .int ma, .int mk, .int mp, .long mv, .int mw, .ref mN, .ref mD, .ref mF, .ref mS, .ref mL, .ref mR, .ref mE, .ref mK, .ref mV, .int dr, .int dc, .int ds, .int ru, .int cl, .ref mO, .int os, .int fc, .ref mA, .ref mB, .ref mU, .ref mW, .int pi, .int z_2, .long ms, .int aq, .int da, .ref mX, .ref mY, .long lu, .long ld, .long qu, .long qd]))] H := hP
    have hD : va_D A [(oM, .inr (8, [.int th, .ref mT, .int ml, .int ma, .int mk, .int mp, .long mv, .int mw, .ref mN, .ref mD, .ref mF, .ref mS, .ref mL, .ref mR, .ref mE, .ref mK, .ref mV, .int dr, .int dc, .int ds, .int ru, .int cl, .ref mO, .int os, .int fc, .ref mA, .ref mB, .ref mU, .ref mW, .int pi, .int z_2, .long ms, .int aq, .int da, .ref mX, .ref mY, .long lu, .long ld, .long qu, .long qd]))] := hD
    refine lv_lload hx hb d_Model_plus_24 (lv_at hl 0 rfl) ?_
    have hP9 := hP.sub (ws' := [(oM, .inr (8, [.int th, .ref mT, .int ml, .int ma, .int mk, .int mp, .long mv, .int mw, .ref mN, .ref mD, .ref mF, .ref mS, .ref mL, .ref mR, .ref mE, .ref mK, .ref mV, .int dr, .int dc, .int ds, .int ru, .int cl, .ref mO, .int os, .int fc, .ref mA, .ref mB, .ref mU, .ref mW, .int pi, .int z_2, .long ms, .int aq, .int da, .ref mX, .ref mY, .long lu, .long ld, .long qu, .long qd]))]) [0] rfl
    have hD9 := hD.sub (ws' := [(oM, .inr (8, [.int th, .ref mT, .int ml, .int ma, .int mk, .int mp, .long mv, .int mw, .ref mN, .ref mD, .ref mF, .ref mS, .ref mL, .ref mR, .ref mE, .ref mK, .ref mV, .int dr, .int dc, .int ds, .int ru, .int cl, .ref mO, .int os, .int fc, .ref mA, .ref mB, .ref mU, .ref mW, .int pi, .int z_2, .long ms, .int aq, .int da, .ref mX, .ref mY, .long lu, .long ld, .long qu, .long qd]))]) [0] (by decide) rfl
    exact W.lret (v := va + vb) hx hb hr (fun t ht hW => ⟨⟨va + vb, z_2, rfl, ⟨by rw [hF], by rw [hF]⟩, by rw [ht]; exact hP9, hD9⟩, hS.F ht⟩) hS.2.2 d_Model_plus_26
def f_Model_less (va : Int64) (vb : Int64) (wh : Int32) : Int64 × Int32 := (if 0 ≤ (lg_cmp ((va ^^^ vb) &&& (va ^^^ (va - vb))) 0) then (va - vb, wh) else (lt_ (f_Model_stop 2 wh) fun z_2 => (va - vb, z_2)))
abbrev q_Model_less (dC : Nat → ClassId) (dI : Nat → Nat → Nat) (cB cI cJ : ClassId) (oM mT mN mD mF mS mL mR mE mK mV mO mA mB mU mW mX mY : Nat) (va : Int64) (vb : Int64) (th : Int32) (ml : Int32) (ma : Int32) (mk : Int32) (mp : Int32) (mv : Int64) (mw : Int32) (dr : Int32) (dc : Int32) (ds : Int32) (ru : Int32) (cl : Int32) (os : Int32) (fc : Int32) (pi : Int32) (wh : Int32) (ms : Int64) (aq : Int32) (da : Int32) (lu : Int64) (ld : Int64) (qu : Int64) (qd : Int64) (A : Nat → Prop) : Array Value → State → Outcome → State → Prop := va_Ql (fun (r : Int64) (u : Int32) => r = (f_Model_less va vb wh).1 ∧ u = (f_Model_less va vb wh).2) (fun u t => va_P (dC, dI) vwCl [(oM, .inr (8, [.int th, .ref mT, .int ml, .int ma, .int mk, .int mp, .long mv, .int mw, .ref mN, .ref mD, .ref mF, .ref mS, .ref mL, .ref mR, .ref mE, .ref mK, .ref mV, .int dr, .int dc, .int ds, .int ru, .int cl, .ref mO, .int os, .int fc, .ref mA, .ref mB, .ref mU, .ref mW, .int pi, .int u, .long ms, .int aq, .int da, .ref mX, .ref mY, .long lu, .long ld, .long qu, .long qd]))] t.heap ∧ va_D A [(oM, .inr (8, [.int th, .ref mT, .int ml, .int ma, .int mk, .int mp, .long mv, .int mw, .ref mN, .ref mD, .ref mF, .ref mS, .ref mL, .ref mR, .ref mE, .ref mK, .ref mV, .int dr, .int dc, .int ds, .int ru, .int cl, .ref mO, .int os, .int fc, .ref mA, .ref mB, .ref mU, .ref mW, .int pi, .int u, .long ms, .int aq, .int da, .ref mX, .ref mY, .long lu, .long ld, .long qu, .long qd]))]) A
set_option maxHeartbeats 4000000 in
set_option maxRecDepth 100000 in
theorem c_Model_less (l : Launch) (dC : Nat → ClassId) (dI : Nat → Nat → Nat) (cB cI cJ : ClassId) (oM mT mN mD mF mS mL mR mE mK mV mO mA mB mU mW mX mY : Nat) (sz : Nat) (va : Int64) (vb : Int64) (th : Int32) (ml : Int32) (ma : Int32) (mk : Int32) (mp : Int32) (mv : Int64) (mw : Int32) (dr : Int32) (dc : Int32) (ds : Int32) (ru : Int32) (cl : Int32) (os : Int32) (fc : Int32) (pi : Int32) (wh : Int32) (ms : Int64) (aq : Int32) (da : Int32) (lu : Int64) (ld : Int64) (qu : Int64) (qd : Int64) : Met l y_Model_less (cw_Model_less :: bgw) { frames := 1, cells := 0, slots := 0, locals := 21 } (va_Pc [.ref oM, .long va, .long vb] (kb_B dC dI cB cI cJ [(oM, .inr (8, [.int th, .ref mT, .int ml, .int ma, .int mk, .int mp, .long mv, .int mw, .ref mN, .ref mD, .ref mF, .ref mS, .ref mL, .ref mR, .ref mE, .ref mK, .ref mV, .int dr, .int dc, .int ds, .int ru, .int cl, .ref mO, .int os, .int fc, .ref mA, .ref mB, .ref mU, .ref mW, .int pi, .int wh, .long ms, .int aq, .int da, .ref mX, .ref mY, .long lu, .long ld, .long qu, .long qd]))] sz)) (q_Model_less dC dI cB cI cJ oM mT mN mD mF mS mL mR mE mK mV mO mA mB mU mW mX mY va vb th ml ma mk mp mv mw dr dc ds ru cl os fc pi wh ms aq da lu ld qu qd (va_A [(oM, .inr (8, [.int th, .ref mT, .int ml, .int ma, .int mk, .int mp, .long mv, .int mw, .ref mN, .ref mD, .ref mF, .ref mS, .ref mL, .ref mR, .ref mE, .ref mK, .ref mV, .int dr, .int dc, .int ds, .int ru, .int cl, .ref mO, .int os, .int fc, .ref mA, .ref mB, .ref mU, .ref mW, .int pi, .int wh, .long ms, .int aq, .int da, .ref mX, .ref mY, .long lu, .long ld, .long qu, .long qd]))] sz)) 0 0 (va_A [(oM, .inr (8, [.int th, .ref mT, .int ml, .int ma, .int mk, .int mp, .long mv, .int mw, .ref mN, .ref mD, .ref mF, .ref mS, .ref mL, .ref mR, .ref mE, .ref mK, .ref mV, .int dr, .int dc, .int ds, .int ru, .int cl, .ref mO, .int os, .int fc, .ref mA, .ref mB, .ref mU, .ref mW, .int pi, .int wh, .long ms, .int aq, .int da, .ref mX, .ref mY, .long lu, .long ld, .long qu, .long qd]))] sz) := by
  refine Met.ofW (cc := prog_10_method_26_code) (maxL := 7) (ret := (some .long)) (by decide) rfl ?_
  intro p e s m args below meth c s₁ B hml hv
  obtain ⟨rfl, hsz, hP, hKx, hD0⟩ := hv
  have hx := B.exec
  have hb := B.bytes
  have hr := B.returns
  have hts := atoms_spec (ws := (cw_Model_less :: bgw)) B.pre
  have hown : s.vm.findClass "PermitRulesModel" = some m.cls := findClass_of_methodNamed B.named
  have hlocks := B.notSynchronized
  have htb := fun (w : Cond) (h : w ∈ bgw) => hts w (List.mem_cons_of_mem _ h)
  have hK := hKx.1
  subst hsz
  have hD := hD0.self (sz := s.heap.size)
  generalize hAe : va_A [(oM, .inr (8, [.int th, .ref mT, .int ml, .int ma, .int mk, .int mp, .long mv, .int mw, .ref mN, .ref mD, .ref mF, .ref mS, .ref mL, .ref mR, .ref mE, .ref mK, .ref mV, .int dr, .int dc, .int ds, .int ru, .int cl, .ref mO, .int os, .int fc, .ref mA, .ref mB, .ref mU, .ref mW, .int pi, .int wh, .long ms, .int aq, .int da, .ref mX, .ref mY, .long lu, .long ld, .long qu, .long qd]))] s.heap.size = A at hD ⊢
  have hA : ∀ q : Nat, s.heap.size ≤ q → A q := fun q h => by rw [← hAe]; exact Or.inr h
  have hS : va_S A s.heap s.heap [] := va_S.rf
  have hl := lv_entry ([.ref oM, .long va, .long vb]) (n := 7) (Nat.le_of_ble_eq_true rfl)
  rw [lg_entry_eq]
  generalize (lg_sl ([.ref oM, .long va, .long vb]) ++ List.replicate (7 - (lg_sl ([.ref oM, .long va, .long vb])).length) Slot.unset).toArray = ls at hl ⊢
  have hl : lv_has ls 7 [(0, .ref oM), (1, .long va), (3, .long vb)] := hl
  have hP : va_P (dC, dI) vwCl [(oM, .inr (8, [.int th, .ref mT, .int ml, .int ma, .int mk, .int mp, .long mv, .int mw, .ref mN, .ref mD, .ref mF, .ref mS, .ref mL, .ref mR, .ref mE, .ref mK, .ref mV, .int dr, .int dc, .int ds, .int ru, .int cl, .ref mO, .int os, .int fc, .ref mA, .ref mB, .ref mU, .ref mW, .int pi, .int wh, .long ms, .int aq, .int da, .ref mX, .ref mY, .long lu, .long ld, .long qu, .long qd]))] s.heap := hP
  have hF : f_Model_less va vb wh = (if 0 ≤ (lg_cmp ((va ^^^ vb) &&& (va ^^^ (va - vb))) 0) then (va - vb, wh) else (lt_ (f_Model_stop 2 wh) fun z_2 => (va - vb, z_2))) := rfl
  refine lv_lload_n hx hb d_Model_less_0 rfl (lv_at hl 1 rfl) ?_
  refine lv_lload_n hx hb d_Model_less_1 rfl (lv_at hl 2 rfl) ?_
  refine lv_lsub hx hb d_Model_less_2 ?_
  refine lv_lstore (lv' := [(5, .long (va - vb)), (0, .ref oM), (1, .long va), (3, .long vb)]) hx hb d_Model_less_3 hl (by decide) rfl (fun ls hl => ?_)
  refine lv_lload_n hx hb d_Model_less_5 rfl (lv_at hl 2 rfl) ?_
  refine lv_lload_n hx hb d_Model_less_6 rfl (lv_at hl 3 rfl) ?_
  refine lv_lxor hx hb d_Model_less_7 ?_
  refine lv_lload_n hx hb d_Model_less_8 rfl (lv_at hl 2 rfl) ?_
  refine lv_lload hx hb d_Model_less_9 (lv_at hl 0 rfl) ?_
  refine lv_lxor hx hb d_Model_less_11 ?_
  refine lv_land hx hb d_Model_less_12 ?_
  refine lv_lconst (v := 0) hx hb d_Model_less_13 (by decide) ?_
  refine W.lcmp hx hb d_Model_less_14 ?_
  refine lv_if_ge (tgt := 23) hx hb d_Model_less_15 (by decide) (fun c_1 => ?_) (fun c_1 => ?_)
  · have hF := hF.trans (if_pos c_1)
    refine lv_lload hx hb d_Model_less_23 (lv_at hl 0 rfl) ?_
    have hP9 := hP.sub (ws' := [(oM, .inr (8, [.int th, .ref mT, .int ml, .int ma, .int mk, .int mp, .long mv, .int mw, .ref mN, .ref mD, .ref mF, .ref mS, .ref mL, .ref mR, .ref mE, .ref mK, .ref mV, .int dr, .int dc, .int ds, .int ru, .int cl, .ref mO, .int os, .int fc, .ref mA, .ref mB, .ref mU, .ref mW, .int pi, .int wh, .long ms, .int aq, .int da, .ref mX, .ref mY, .long lu, .long ld, .long qu, .long qd]))]) [0] rfl
    have hD9 := hD.sub (ws' := [(oM, .inr (8, [.int th, .ref mT, .int ml, .int ma, .int mk, .int mp, .long mv, .int mw, .ref mN, .ref mD, .ref mF, .ref mS, .ref mL, .ref mR, .ref mE, .ref mK, .ref mV, .int dr, .int dc, .int ds, .int ru, .int cl, .ref mO, .int os, .int fc, .ref mA, .ref mB, .ref mU, .ref mW, .int pi, .int wh, .long ms, .int aq, .int da, .ref mX, .ref mY, .long lu, .long ld, .long qu, .long qd]))]) [0] (by decide) rfl
    exact W.lret (v := va - vb) hx hb hr (fun t ht hW => ⟨⟨va - vb, wh, rfl, ⟨by rw [hF], by rw [hF]⟩, by rw [ht]; exact hP9, hD9⟩, hS.F ht⟩) hS.2.2 d_Model_less_25
  · have hF := hF.trans (if_neg c_1)
    refine lv_aload_n hx hb d_Model_less_18 rfl (lv_at hl 1 rfl) ?_
    refine lv_iconst (v := 2) hx hb d_Model_less_19 (by decide) ?_
    have hPc := hP.sub (ws' := [(oM, .inr (8, [.int th, .ref mT, .int ml, .int ma, .int mk, .int mp, .long mv, .int mw, .ref mN, .ref mD, .ref mF, .ref mS, .ref mL, .ref mR, .ref mE, .ref mK, .ref mV, .int dr, .int dc, .int ds, .int ru, .int cl, .ref mO, .int os, .int fc, .ref mA, .ref mB, .ref mU, .ref mW, .int pi, .int wh, .long ms, .int aq, .int da, .ref mX, .ref mY, .long lu, .long ld, .long qu, .long qd]))]) [0] rfl
    have hDc := hD.sub (ws' := [(oM, .inr (8, [.int th, .ref mT, .int ml, .int ma, .int mk, .int mp, .long mv, .int mw, .ref mN, .ref mD, .ref mF, .ref mS, .ref mL, .ref mR, .ref mE, .ref mK, .ref mV, .int dr, .int dc, .int ds, .int ru, .int cl, .ref mO, .int os, .int fc, .ref mA, .ref mB, .ref mU, .ref mW, .int pi, .int wh, .long ms, .int aq, .int da, .ref mX, .ref mY, .long lu, .long ld, .long qu, .long qd]))]) [0] (by decide) rfl
    have hFc := va_free (wc := [(oM, .inr (8, [.int th, .ref mT, .int ml, .int ma, .int mk, .int mp, .long mv, .int mw, .ref mN, .ref mD, .ref mF, .ref mS, .ref mL, .ref mR, .ref mE, .ref mK, .ref mV, .int dr, .int dc, .int ds, .int ru, .int cl, .ref mO, .int os, .int fc, .ref mA, .ref mB, .ref mU, .ref mW, .int pi, .int wh, .long ms, .int aq, .int da, .ref mX, .ref mY, .long lu, .long ld, .long qu, .long qd]))]) hD hS hA [0] rfl
    refine va_callv (va_runV (As := [.int 2]) (rest := []) ⟨hx, hb, hml, hown, htb⟩ (c_Model_stop l dC dI cB cI cJ oM mT mN mD mF mS mL mR mE mK mV mO mA mB mU mW mX mY _ 2 th ml ma mk mp mv mw dr dc ds ru cl os fc pi wh ms aq da lu ld qu qd ) ⟨callB_of 1 htb (gb_all mb_894) rfl rfl rfl (htb _ mb_9) (htb _ mb_891) (by decide +kernel) ⟨Nat.le_of_ble_eq_true rfl, Nat.le_of_ble_eq_true rfl⟩, htb _ mb_893, htb _ mp_32⟩ ⟨kb_blind, va_recv hK hPc (ci := 8) (q0 := 0) rfl rfl, kb_at hPc hDc hKx⟩ rfl rfl hl.1 rfl (lv_room (Nat.le_of_ble_eq_true rfl)) d_Model_less_20 ⟨Nat.le_of_ble_eq_true rfl, Nat.le_of_ble_eq_true rfl⟩) hS (fun q _ h => hFc q h) hFc (fun z_2 t H1 locs ht hvm hw hB hz1 hk1 hS => ?_)
    have hz_2 := hw
    have hF := hF.trans (lt_e hz_2)
    obtain ⟨hP1, hD1⟩ := hB
    rw [ht] at hP1
    obtain ⟨hP, hD⟩ := va_join (wr := []) (w1 := [(oM, .inr (8, [.int th, .ref mT, .int ml, .int ma, .int mk, .int mp, .long mv, .int mw, .ref mN, .ref mD, .ref mF, .ref mS, .ref mL, .ref mR, .ref mE, .ref mK, .ref mV, .int dr, .int dc, .int ds, .int ru, .int cl, .ref mO, .int os, .int fc, .ref mA, .ref mB, .ref mU, .ref mW, .int pi, .int z_2, .long ms, .int aq, .int da, .ref mX, .ref mY, .long lu, .long ld, .long qu, .long qd]))]) hP hD [0] [] rfl rfl (by decide) (by decide) hk1 hFc hP1 hD1
    generalize H1 = H at hP hS ⊢
    have hP : va_P (dC, dI) vwCl [(oM, .inr (8, [.int th, .ref mT, .int ml, .int ma, .int mk, .int mp, .long mv, .int mw, .ref mN, .ref mD, .ref mF, .ref mS, .ref mL, .ref mR, .ref mE, .ref mK, .ref mV, .int dr, .int dc, .int ds, .int ru, .int cl, .ref mO, .int os, .int fc, .ref mA, .ref mB, .ref mU, .ref mW, .int pi, .int z_2, .long ms, .int aq, .int da, .ref mX, .ref mY, .long lu, .long ld, .long qu, .long qd]))] H := hP
    have hD : va_D A [(oM, .inr (8, [.int th, .ref mT, .int ml, .int ma, .int mk, .int mp, .long mv, .int mw, .ref mN, .ref mD, .ref mF, .ref mS, .ref mL, .ref mR, .ref mE, .ref mK, .ref mV, .int dr, .int dc, .int ds, .int ru, .int cl, .ref mO, .int os, .int fc, .ref mA, .ref mB, .ref mU, .ref mW, .int pi, .int z_2, .long ms, .int aq, .int da, .ref mX, .ref mY, .long lu, .long ld, .long qu, .long qd]))] := hD
    refine lv_lload hx hb d_Model_less_23 (lv_at hl 0 rfl) ?_
    have hP9 := hP.sub (ws' := [(oM, .inr (8, [.int th, .ref mT, .int ml, .int ma, .int mk, .int mp, .long mv, .int mw, .ref mN, .ref mD, .ref mF, .ref mS, .ref mL, .ref mR, .ref mE, .ref mK, .ref mV, .int dr, .int dc, .int ds, .int ru, .int cl, .ref mO, .int os, .int fc, .ref mA, .ref mB, .ref mU, .ref mW, .int pi, .int z_2, .long ms, .int aq, .int da, .ref mX, .ref mY, .long lu, .long ld, .long qu, .long qd]))]) [0] rfl
    have hD9 := hD.sub (ws' := [(oM, .inr (8, [.int th, .ref mT, .int ml, .int ma, .int mk, .int mp, .long mv, .int mw, .ref mN, .ref mD, .ref mF, .ref mS, .ref mL, .ref mR, .ref mE, .ref mK, .ref mV, .int dr, .int dc, .int ds, .int ru, .int cl, .ref mO, .int os, .int fc, .ref mA, .ref mB, .ref mU, .ref mW, .int pi, .int z_2, .long ms, .int aq, .int da, .ref mX, .ref mY, .long lu, .long ld, .long qu, .long qd]))]) [0] (by decide) rfl
    exact W.lret (v := va - vb) hx hb hr (fun t ht hW => ⟨⟨va - vb, z_2, rfl, ⟨by rw [hF], by rw [hF]⟩, by rw [ht]; exact hP9, hD9⟩, hS.F ht⟩) hS.2.2 d_Model_less_25
theorem lc_z {x y : Int64} : lg_cmp x y = 0 ↔ x = y := by
  unfold lg_cmp
  repeat' split
  · rename_i h; exact ⟨fun e => absurd e (by decide), fun e => by rw [e] at h; exact absurd h (by simp)⟩
  · rename_i h; exact ⟨fun _ => h, fun _ => rfl⟩
  · rename_i h; exact ⟨fun e => absurd e (by decide), fun e => absurd e h⟩
theorem gv_nz {gx gy : Int64} (hg : ¬ (gx = 0 ∧ gy = 0)) (h : lg_cmp gy 0 = 0) : ¬ gx = 0 := fun e => hg ⟨e, lc_z.mp h⟩
theorem gv_nn {gx gy : Int64} (hg : ¬ (gx = 0 ∧ gy = 0)) (h : lg_cmp gy 0 = 0) : ¬ -gx = 0 := fun e => gv_nz hg h (by rw [← Int64.neg_neg (a := gx), e]; rfl)
theorem gv_s {x y : Int64} {n : Nat} (h : ¬ lg_cmp y 0 = 0) (hn : y.toInt.natAbs < n + 1) : (x - x / y * y).toInt.natAbs < n := by
  rw [Jvm.Kit.i64_rem]
  have h0 : y.toInt ≠ 0 := fun e => oi_nz h (Int64.toInt_inj.mp e)
  have h1 : (x.toInt.tmod y.toInt).natAbs < y.toInt.natAbs := by
    rw [Int.natAbs_tmod]
    exact Nat.mod_lt _ (by omega)
  omega
theorem in_lo {z : Int32} {va vb vc : Int64} (hz : z = f_Model_in va vb vc) (h : ¬ z = 0) : vb ≤ va ∧ va ≤ vc := by
  rw [hz] at h
  unfold f_Model_in at h
  by_cases h1 : lg_cmp va vb < 0
  · rw [if_pos h1] at h; exact absurd rfl h
  · rw [if_neg h1] at h
    by_cases h2 : 0 < lg_cmp va vc
    · rw [if_pos h2] at h; exact absurd rfl h
    · unfold lg_cmp at h1 h2
      refine ⟨?_, ?_⟩
      · by_cases h3 : va > vb
        · rw [gt_iff_lt, Int64.lt_iff_toInt_lt] at h3; rw [Int64.le_iff_toInt_le]; omega
        · rw [if_neg h3] at h1
          by_cases h4 : va = vb
          · rw [h4]; exact Int64.le_refl _
          · rw [if_neg h4] at h1; exact absurd (by decide) h1
      · by_cases h3 : va > vc
        · rw [if_pos h3] at h2; exact absurd (by decide) h2
        · rw [gt_iff_lt, Int64.lt_iff_toInt_lt] at h3; rw [Int64.le_iff_toInt_le]; omega
theorem i64_of32 (x : Int32) : x.toInt64.toInt = x.toInt := Int32.toInt_toInt64 x
theorem in_r {z nu ru : Int32} (hz : z = f_Model_in nu.toInt64 0 (ru.toInt64 - 1)) (h : ¬ z = 0) : 0 ≤ nu.toInt ∧ nu.toInt < ru.toInt := by
  obtain ⟨h1, h2⟩ := in_lo hz h
  rw [Int64.le_iff_toInt_le] at h1 h2
  have h3 := oi_hi ru
  have h4 := oi_lo ru
  have e1 : (ru.toInt64 - 1).toInt = ru.toInt - 1 := by
    rw [Int64.toInt_sub, i64_of32, show (1 : Int64).toInt = 1 by decide]
    exact Int.bmod_eq_of_le (by omega) (by omega)
  rw [e1, i64_of32] at h2
  rw [i64_of32, show (0 : Int64).toInt = 0 by decide] at h1
  omega
theorem in_6 {z nu : Int32} (hz : z = f_Model_in nu.toInt64 0 6) (h : ¬ z = 0) : 0 ≤ nu.toInt ∧ nu.toInt ≤ 6 := by
  obtain ⟨h1, h2⟩ := in_lo hz h
  rw [Int64.le_iff_toInt_le] at h1 h2
  rw [i64_of32, show (0 : Int64).toInt = 0 by decide] at h1
  rw [i64_of32, show (6 : Int64).toInt = 6 by decide] at h2
  omega
def f_Model_give_L14 (va : Int64) (vb : Int64) (pi : Int32) (wh : Int32) (up : (Nat → Int64)) (dn : (Nat → Int64)) : Nat → Int64 → Int64 → Int32 × Int32 × (Nat → Int64) × (Nat → Int64)
  | 0, _, _ => (0, 0, (fun _ => 0), (fun _ => 0))
  | n + 1, gx, gy => (if (lg_cmp gy 0) = 0 then (if 0 ≤ (lg_cmp gx 0) then (if 0 ≤ (lg_cmp (vb / gx) 0) then (pi + 1, wh, vp_updL up pi.toNatClampNeg (va / gx), vp_updL dn pi.toNatClampNeg (vb / gx)) else (lt_ (f_Model_less 0 (va / gx) wh) fun z_5 => (lt_ (f_Model_less 0 (vb / gx) z_5.2) fun z_6 => (pi + 1, z_6.2, vp_updL up pi.toNatClampNeg z_5.1, vp_updL dn pi.toNatClampNeg z_6.1)))) else (if (lg_cmp gx (-9223372036854775808)) = 0 then (if 0 ≤ (lg_cmp (vb / gx) 0) then (pi + 1, wh, vp_updL up pi.toNatClampNeg (va / gx), vp_updL dn pi.toNatClampNeg (vb / gx)) else (lt_ (f_Model_less 0 (va / gx) wh) fun z_9 => (lt_ (f_Model_less 0 (vb / gx) z_9.2) fun z_10 => (pi + 1, z_10.2, vp_updL up pi.toNatClampNeg z_9.1, vp_updL dn pi.toNatClampNeg z_10.1)))) else (if 0 ≤ (lg_cmp (vb / (-gx)) 0) then (pi + 1, wh, vp_updL up pi.toNatClampNeg (va / (-gx)), vp_updL dn pi.toNatClampNeg (vb / (-gx))) else (lt_ (f_Model_less 0 (va / (-gx)) wh) fun z_12 => (lt_ (f_Model_less 0 (vb / (-gx)) z_12.2) fun z_13 => (pi + 1, z_13.2, vp_updL up pi.toNatClampNeg z_12.1, vp_updL dn pi.toNatClampNeg z_13.1)))))) else (f_Model_give_L14 va vb pi wh up dn n gy (gx - gx / gy * gy)))
theorem f_Model_give_L14_s (va : Int64) (vb : Int64) (pi : Int32) (wh : Int32) (up : (Nat → Int64)) (dn : (Nat → Int64)) (n : Nat) (gx : Int64) (gy : Int64) : f_Model_give_L14 va vb pi wh up dn (n + 1) gx gy = (if (lg_cmp gy 0) = 0 then (if 0 ≤ (lg_cmp gx 0) then (if 0 ≤ (lg_cmp (vb / gx) 0) then (pi + 1, wh, vp_updL up pi.toNatClampNeg (va / gx), vp_updL dn pi.toNatClampNeg (vb / gx)) else (lt_ (f_Model_less 0 (va / gx) wh) fun z_5 => (lt_ (f_Model_less 0 (vb / gx) z_5.2) fun z_6 => (pi + 1, z_6.2, vp_updL up pi.toNatClampNeg z_5.1, vp_updL dn pi.toNatClampNeg z_6.1)))) else (if (lg_cmp gx (-9223372036854775808)) = 0 then (if 0 ≤ (lg_cmp (vb / gx) 0) then (pi + 1, wh, vp_updL up pi.toNatClampNeg (va / gx), vp_updL dn pi.toNatClampNeg (vb / gx)) else (lt_ (f_Model_less 0 (va / gx) wh) fun z_9 => (lt_ (f_Model_less 0 (vb / gx) z_9.2) fun z_10 => (pi + 1, z_10.2, vp_updL up pi.toNatClampNeg z_9.1, vp_updL dn pi.toNatClampNeg z_10.1)))) else (if 0 ≤ (lg_cmp (vb / (-gx)) 0) then (pi + 1, wh, vp_updL up pi.toNatClampNeg (va / (-gx)), vp_updL dn pi.toNatClampNeg (vb / (-gx))) else (lt_ (f_Model_less 0 (va / (-gx)) wh) fun z_12 => (lt_ (f_Model_less 0 (vb / (-gx)) z_12.2) fun z_13 => (pi + 1, z_13.2, vp_updL up pi.toNatClampNeg z_12.1, vp_updL dn pi.toNatClampNeg z_13.1)))))) else (f_Model_give_L14 va vb pi wh up dn n gy (gx - gx / gy * gy))) := rfl
def f_Model_give (va : Int64) (vb : Int64) (pi : Int32) (wh : Int32) (up : (Nat → Int64)) (dn : (Nat → Int64)) : Int32 × Int32 × (Nat → Int64) × (Nat → Int64) := (if wh ≤ 0 then (f_Model_give_L14 va vb pi wh up dn (vb.toInt.natAbs + 1) va vb) else (pi, wh, up, dn))
abbrev q_Model_give (dC : Nat → ClassId) (dI : Nat → Nat → Nat) (cB cI cJ : ClassId) (oM mT mN mD mF mS mL mR mE mK mV mO mA mB mU mW mX mY : Nat) (va : Int64) (vb : Int64) (th : Int32) (ml : Int32) (ma : Int32) (mk : Int32) (mp : Int32) (mv : Int64) (mw : Int32) (dr : Int32) (dc : Int32) (ds : Int32) (ru : Int32) (cl : Int32) (os : Int32) (fc : Int32) (pi : Int32) (wh : Int32) (ms : Int64) (aq : Int32) (da : Int32) (lu : Int64) (ld : Int64) (qu : Int64) (qd : Int64) (up : (Nat → Int64)) (dn : (Nat → Int64)) (A : Nat → Prop) : Array Value → State → Outcome → State → Prop := va_Qv (fun u : Int32 × Int32 × (Nat → Int64) × (Nat → Int64) => u = f_Model_give va vb pi wh up dn) (fun u t => va_P (dC, dI) vwCl [(oM, .inr (8, [.int th, .ref mT, .int ml, .int ma, .int mk, .int mp, .long mv, .int mw, .ref mN, .ref mD, .ref mF, .ref mS, .ref mL, .ref mR, .ref mE, .ref mK, .ref mV, .int dr, .int dc, .int ds, .int ru, .int cl, .ref mO, .int os, .int fc, .ref mA, .ref mB, .ref mU, .ref mW, .int u.1, .int u.2.1, .long ms, .int aq, .int da, .ref mX, .ref mY, .long lu, .long ld, .long qu, .long qd])), (mU, .inl (cJ, 130, .inr (.inl u.2.2.1))), (mW, .inl (cJ, 130, .inr (.inl u.2.2.2)))] t.heap ∧ va_D A [(oM, .inr (8, [.int th, .ref mT, .int ml, .int ma, .int mk, .int mp, .long mv, .int mw, .ref mN, .ref mD, .ref mF, .ref mS, .ref mL, .ref mR, .ref mE, .ref mK, .ref mV, .int dr, .int dc, .int ds, .int ru, .int cl, .ref mO, .int os, .int fc, .ref mA, .ref mB, .ref mU, .ref mW, .int u.1, .int u.2.1, .long ms, .int aq, .int da, .ref mX, .ref mY, .long lu, .long ld, .long qu, .long qd])), (mU, .inl (cJ, 130, .inr (.inl u.2.2.1))), (mW, .inl (cJ, 130, .inr (.inl u.2.2.2)))]) A
set_option maxHeartbeats 4000000 in
set_option maxRecDepth 100000 in
theorem c_Model_give (l : Launch) (dC : Nat → ClassId) (dI : Nat → Nat → Nat) (cB cI cJ : ClassId) (oM mT mN mD mF mS mL mR mE mK mV mO mA mB mU mW mX mY : Nat) (sz : Nat) (va : Int64) (vb : Int64) (th : Int32) (ml : Int32) (ma : Int32) (mk : Int32) (mp : Int32) (mv : Int64) (mw : Int32) (dr : Int32) (dc : Int32) (ds : Int32) (ru : Int32) (cl : Int32) (os : Int32) (fc : Int32) (pi : Int32) (wh : Int32) (ms : Int64) (aq : Int32) (da : Int32) (lu : Int64) (ld : Int64) (qu : Int64) (qd : Int64) (up : (Nat → Int64)) (dn : (Nat → Int64)) (h0 : 0 ≤ pi.toInt) (h1 : pi.toInt < 130) (hd : (wh ≤ 0 → ¬ vb = 0)) : Met l y_Model_give (cw_Model_give :: bgw) { frames := 2, cells := 0, slots := 0, locals := 47 } (va_Pc [.ref oM, .long va, .long vb] (kb_B dC dI cB cI cJ [(oM, .inr (8, [.int th, .ref mT, .int ml, .int ma, .int mk, .int mp, .long mv, .int mw, .ref mN, .ref mD, .ref mF, .ref mS, .ref mL, .ref mR, .ref mE, .ref mK, .ref mV, .int dr, .int dc, .int ds, .int ru, .int cl, .ref mO, .int os, .int fc, .ref mA, .ref mB, .ref mU, .ref mW, .int pi, .int wh, .long ms, .int aq, .int da, .ref mX, .ref mY, .long lu, .long ld, .long qu, .long qd])), (mU, .inl (cJ, 130, .inr (.inl up))), (mW, .inl (cJ, 130, .inr (.inl dn)))] sz)) (q_Model_give dC dI cB cI cJ oM mT mN mD mF mS mL mR mE mK mV mO mA mB mU mW mX mY va vb th ml ma mk mp mv mw dr dc ds ru cl os fc pi wh ms aq da lu ld qu qd up dn (va_A [(oM, .inr (8, [.int th, .ref mT, .int ml, .int ma, .int mk, .int mp, .long mv, .int mw, .ref mN, .ref mD, .ref mF, .ref mS, .ref mL, .ref mR, .ref mE, .ref mK, .ref mV, .int dr, .int dc, .int ds, .int ru, .int cl, .ref mO, .int os, .int fc, .ref mA, .ref mB, .ref mU, .ref mW, .int pi, .int wh, .long ms, .int aq, .int da, .ref mX, .ref mY, .long lu, .long ld, .long qu, .long qd])), (mU, .inl (cJ, 130, .inr (.inl up))), (mW, .inl (cJ, 130, .inr (.inl dn)))] sz)) 0 0 (va_A [(oM, .inr (8, [.int th, .ref mT, .int ml, .int ma, .int mk, .int mp, .long mv, .int mw, .ref mN, .ref mD, .ref mF, .ref mS, .ref mL, .ref mR, .ref mE, .ref mK, .ref mV, .int dr, .int dc, .int ds, .int ru, .int cl, .ref mO, .int os, .int fc, .ref mA, .ref mB, .ref mU, .ref mW, .int pi, .int wh, .long ms, .int aq, .int da, .ref mX, .ref mY, .long lu, .long ld, .long qu, .long qd])), (mU, .inl (cJ, 130, .inr (.inl up))), (mW, .inl (cJ, 130, .inr (.inl dn)))] sz) := by
  refine Met.ofW (cc := prog_10_method_27_code) (maxL := 13) (ret := none) (by decide) rfl ?_
  intro p e s m args below meth c s₁ B hml hv
  obtain ⟨rfl, hsz, hP, hKx, hD0⟩ := hv
  have hx := B.exec
  have hb := B.bytes
  have hr := B.returns
  have hts := atoms_spec (ws := (cw_Model_give :: bgw)) B.pre
  have hown : s.vm.findClass "PermitRulesModel" = some m.cls := findClass_of_methodNamed B.named
  have hlocks := B.notSynchronized
  have htb := fun (w : Cond) (h : w ∈ bgw) => hts w (List.mem_cons_of_mem _ h)
  have hK := hKx.1
  subst hsz
  have hD := hD0.self (sz := s.heap.size)
  generalize hAe : va_A [(oM, .inr (8, [.int th, .ref mT, .int ml, .int ma, .int mk, .int mp, .long mv, .int mw, .ref mN, .ref mD, .ref mF, .ref mS, .ref mL, .ref mR, .ref mE, .ref mK, .ref mV, .int dr, .int dc, .int ds, .int ru, .int cl, .ref mO, .int os, .int fc, .ref mA, .ref mB, .ref mU, .ref mW, .int pi, .int wh, .long ms, .int aq, .int da, .ref mX, .ref mY, .long lu, .long ld, .long qu, .long qd])), (mU, .inl (cJ, 130, .inr (.inl up))), (mW, .inl (cJ, 130, .inr (.inl dn)))] s.heap.size = A at hD ⊢
  have hA : ∀ q : Nat, s.heap.size ≤ q → A q := fun q h => by rw [← hAe]; exact Or.inr h
  have hS : va_S A s.heap s.heap [] := va_S.rf
  have hl := lv_entry ([.ref oM, .long va, .long vb]) (n := 13) (Nat.le_of_ble_eq_true rfl)
  rw [lg_entry_eq]
  generalize (lg_sl ([.ref oM, .long va, .long vb]) ++ List.replicate (13 - (lg_sl ([.ref oM, .long va, .long vb])).length) Slot.unset).toArray = ls at hl ⊢
  have hl : lv_has ls 13 [(0, .ref oM), (1, .long va), (3, .long vb)] := hl
  have hP : va_P (dC, dI) vwCl [(oM, .inr (8, [.int th, .ref mT, .int ml, .int ma, .int mk, .int mp, .long mv, .int mw, .ref mN, .ref mD, .ref mF, .ref mS, .ref mL, .ref mR, .ref mE, .ref mK, .ref mV, .int dr, .int dc, .int ds, .int ru, .int cl, .ref mO, .int os, .int fc, .ref mA, .ref mB, .ref mU, .ref mW, .int pi, .int wh, .long ms, .int aq, .int da, .ref mX, .ref mY, .long lu, .long ld, .long qu, .long qd])), (mU, .inl (cJ, 130, .inr (.inl up))), (mW, .inl (cJ, 130, .inr (.inl dn)))] s.heap := hP
  have hF : f_Model_give va vb pi wh up dn = (if wh ≤ 0 then (f_Model_give_L14 va vb pi wh up dn (vb.toInt.natAbs + 1) va vb) else (pi, wh, up, dn)) := rfl
  have lp14 : ∀ (n : Nat) (gx : Int64) (gy : Int64), ¬ (gx = 0 ∧ gy = 0) → gy.toInt.natAbs < n → f_Model_give va vb pi wh up dn = f_Model_give_L14 va vb pi wh up dn n gx gy → ∀ (H : Heap) (locs : List Loc) (ls : Array Slot), va_P (dC, dI) vwCl [(oM, .inr (8, [.int th, .ref mT, .int ml, .int ma, .int mk, .int mp, .long mv, .int mw, .ref mN, .ref mD, .ref mF, .ref mS, .ref mL, .ref mR, .ref mE, .ref mK, .ref mV, .int dr, .int dc, .int ds, .int ru, .int cl, .ref mO, .int os, .int fc, .ref mA, .ref mB, .ref mU, .ref mW, .int pi, .int wh, .long ms, .int aq, .int da, .ref mX, .ref mY, .long lu, .long ld, .long qu, .long qd])), (mU, .inl (cJ, 130, .inr (.inl up))), (mW, .inl (cJ, 130, .inr (.inl dn)))] H → va_D A [(oM, .inr (8, [.int th, .ref mT, .int ml, .int ma, .int mk, .int mp, .long mv, .int mw, .ref mN, .ref mD, .ref mF, .ref mS, .ref mL, .ref mR, .ref mE, .ref mK, .ref mV, .int dr, .int dc, .int ds, .int ru, .int cl, .ref mO, .int os, .int fc, .ref mA, .ref mB, .ref mU, .ref mW, .int pi, .int wh, .long ms, .int aq, .int da, .ref mX, .ref mY, .long lu, .long ld, .long qu, .long qd])), (mU, .inl (cJ, 130, .inr (.inl up))), (mW, .inl (cJ, 130, .inr (.inl dn)))] → va_S A s.heap H locs → lv_has ls 13 [(7, .long gy), (5, .long gx), (0, .ref oM), (1, .long va), (3, .long vb)] → W p l e (headSpec (cw_Model_give :: bgw) { frames := 2, cells := 0, slots := 0, locals := 47 }).room s m ([.ref oM, .long va, .long vb] : List Value).toArray below meth c H locs 0 0 (MQ below (q_Model_give dC dI cB cI cJ oM mT mN mD mF mS mL mR mE mK mV mO mA mB mU mW mX mY va vb th ml ma mk mp mv mw dr dc ds ru cl os fc pi wh ms aq da lu ld qu qd up dn A) ([.ref oM, .long va, .long vb] : List Value).toArray s 0 0 A) (F0 m 14 ls []) := by
    intro n
    induction n with
    | zero => intro gx gy hg hn; exact absurd hn (Nat.not_lt_zero _)
    | succ n ih =>
      intro gx gy hg hn hF H locs ls hP hD hS hl
      have hF := hF.trans (f_Model_give_L14_s va vb pi wh up dn n gx gy)
      refine lv_lload hx hb d_Model_give_14 (lv_at hl 0 rfl) ?_
      refine lv_lconst (v := 0) hx hb d_Model_give_16 (by decide) ?_
      refine W.lcmp hx hb d_Model_give_17 ?_
      refine lv_if_eq (tgt := 39) hx hb d_Model_give_18 (by decide) (fun c_2 => ?_) (fun c_2 => ?_)
      · have hF := hF.trans (if_pos c_2)
        refine lv_lload hx hb d_Model_give_39 (lv_at hl 1 rfl) ?_
        refine lv_lconst (v := 0) hx hb d_Model_give_41 (by decide) ?_
        refine W.lcmp hx hb d_Model_give_42 ?_
        refine lv_if_ge (tgt := 61) hx hb d_Model_give_43 (by decide) (fun c_3 => ?_) (fun c_3 => ?_)
        · have hF := hF.trans (if_pos c_3)
          refine lv_lload hx hb d_Model_give_61 (lv_at hl 1 rfl) ?_
          refine lv_lstore (lv' := [(5, .long gx), (7, .long gy), (0, .ref oM), (1, .long va), (3, .long vb)]) hx hb d_Model_give_63 hl (by decide) rfl (fun ls hl => ?_)
          refine lv_lload_n hx hb d_Model_give_65 rfl (lv_at hl 3 rfl) ?_
          refine lv_lload hx hb d_Model_give_66 (lv_at hl 0 rfl) ?_
          refine lv_ldiv hx hb d_Model_give_68 (gv_nz hg c_2) ?_
          refine lv_lstore (lv' := [(9, .long (va / gx)), (5, .long gx), (7, .long gy), (0, .ref oM), (1, .long va), (3, .long vb)]) hx hb d_Model_give_69 hl (by decide) rfl (fun ls hl => ?_)
          refine lv_lload_n hx hb d_Model_give_71 rfl (lv_at hl 5 rfl) ?_
          refine lv_lload hx hb d_Model_give_72 (lv_at hl 1 rfl) ?_
          refine lv_ldiv hx hb d_Model_give_74 (gv_nz hg c_2) ?_
          refine lv_lstore (lv' := [(11, .long (vb / gx)), (9, .long (va / gx)), (5, .long gx), (7, .long gy), (0, .ref oM), (1, .long va), (3, .long vb)]) hx hb d_Model_give_75 hl (by decide) rfl (fun ls hl => ?_)
          refine lv_lload hx hb d_Model_give_77 (lv_at hl 0 rfl) ?_
          refine lv_lconst (v := 0) hx hb d_Model_give_79 (by decide) ?_
          refine W.lcmp hx hb d_Model_give_80 ?_
          refine lv_if_ge (tgt := 102) hx hb d_Model_give_81 (by decide) (fun c_4 => ?_) (fun c_4 => ?_)
          · have hF := hF.trans (if_pos c_4)
            refine lv_aload_n hx hb d_Model_give_102 rfl (lv_at hl 4 rfl) ?_
            refine va_get (D := (dC, dI)) (ci := 8) (v := .ref mU) (C := "PermitRulesModel") (T := T_Model) (N := 40) hx hb htb in_Model hown hK hP 0 rfl rfl 27 (by decide) (htb _ mb_680) (fun _ h9 => h9) rfl d_Model_give_103 ?_
            refine lv_aload_n hx hb d_Model_give_106 rfl (lv_at hl 4 rfl) ?_
            refine va_get (D := (dC, dI)) (ci := 8) (v := .int pi) (C := "PermitRulesModel") (T := T_Model) (N := 40) hx hb htb in_Model hown hK hP 0 rfl rfl 29 (by decide) (htb _ mb_682) (fun _ h9 => h9) rfl d_Model_give_107 ?_
            refine lv_lload hx hb d_Model_give_110 (lv_at hl 1 rfl) ?_
            refine va_last hx hb hK hP hD hS 1 2 rfl rfl (ib_in (Eq.refl pi.toInt) (by omega) (by omega)) d_Model_give_112 (fun H locs hP hD hS => ?_)
            have hP : va_P (dC, dI) vwCl [(oM, .inr (8, [.int th, .ref mT, .int ml, .int ma, .int mk, .int mp, .long mv, .int mw, .ref mN, .ref mD, .ref mF, .ref mS, .ref mL, .ref mR, .ref mE, .ref mK, .ref mV, .int dr, .int dc, .int ds, .int ru, .int cl, .ref mO, .int os, .int fc, .ref mA, .ref mB, .ref mU, .ref mW, .int pi, .int wh, .long ms, .int aq, .int da, .ref mX, .ref mY, .long lu, .long ld, .long qu, .long qd])), (mU, .inl (cJ, 130, .inr (.inl (vp_updL up pi.toNatClampNeg (va / gx))))), (mW, .inl (cJ, 130, .inr (.inl dn)))] H := hP
            have hD : va_D A [(oM, .inr (8, [.int th, .ref mT, .int ml, .int ma, .int mk, .int mp, .long mv, .int mw, .ref mN, .ref mD, .ref mF, .ref mS, .ref mL, .ref mR, .ref mE, .ref mK, .ref mV, .int dr, .int dc, .int ds, .int ru, .int cl, .ref mO, .int os, .int fc, .ref mA, .ref mB, .ref mU, .ref mW, .int pi, .int wh, .long ms, .int aq, .int da, .ref mX, .ref mY, .long lu, .long ld, .long qu, .long qd])), (mU, .inl (cJ, 130, .inr (.inl (vp_updL up pi.toNatClampNeg (va / gx))))), (mW, .inl (cJ, 130, .inr (.inl dn)))] := hD
            refine lv_aload_n hx hb d_Model_give_113 rfl (lv_at hl 4 rfl) ?_
            refine va_get (D := (dC, dI)) (ci := 8) (v := .ref mW) (C := "PermitRulesModel") (T := T_Model) (N := 40) hx hb htb in_Model hown hK hP 0 rfl rfl 28 (by decide) (htb _ mb_681) (fun _ h9 => h9) rfl d_Model_give_114 ?_
            refine lv_aload_n hx hb d_Model_give_117 rfl (lv_at hl 4 rfl) ?_
            refine va_get (D := (dC, dI)) (ci := 8) (v := .int pi) (C := "PermitRulesModel") (T := T_Model) (N := 40) hx hb htb in_Model hown hK hP 0 rfl rfl 29 (by decide) (htb _ mb_682) (fun _ h9 => h9) rfl d_Model_give_118 ?_
            refine lv_lload hx hb d_Model_give_121 (lv_at hl 0 rfl) ?_
            refine va_last hx hb hK hP hD hS 2 2 rfl rfl (ib_in (Eq.refl pi.toInt) (by omega) (by omega)) d_Model_give_123 (fun H locs hP hD hS => ?_)
            have hP : va_P (dC, dI) vwCl [(oM, .inr (8, [.int th, .ref mT, .int ml, .int ma, .int mk, .int mp, .long mv, .int mw, .ref mN, .ref mD, .ref mF, .ref mS, .ref mL, .ref mR, .ref mE, .ref mK, .ref mV, .int dr, .int dc, .int ds, .int ru, .int cl, .ref mO, .int os, .int fc, .ref mA, .ref mB, .ref mU, .ref mW, .int pi, .int wh, .long ms, .int aq, .int da, .ref mX, .ref mY, .long lu, .long ld, .long qu, .long qd])), (mU, .inl (cJ, 130, .inr (.inl (vp_updL up pi.toNatClampNeg (va / gx))))), (mW, .inl (cJ, 130, .inr (.inl (vp_updL dn pi.toNatClampNeg (vb / gx)))))] H := hP
            have hD : va_D A [(oM, .inr (8, [.int th, .ref mT, .int ml, .int ma, .int mk, .int mp, .long mv, .int mw, .ref mN, .ref mD, .ref mF, .ref mS, .ref mL, .ref mR, .ref mE, .ref mK, .ref mV, .int dr, .int dc, .int ds, .int ru, .int cl, .ref mO, .int os, .int fc, .ref mA, .ref mB, .ref mU, .ref mW, .int pi, .int wh, .long ms, .int aq, .int da, .ref mX, .ref mY, .long lu, .long ld, .long qu, .long qd])), (mU, .inl (cJ, 130, .inr (.inl (vp_updL up pi.toNatClampNeg (va / gx))))), (mW, .inl (cJ, 130, .inr (.inl (vp_updL dn pi.toNatClampNeg (vb / gx)))))] := hD
            refine lv_aload_n hx hb d_Model_give_124 rfl (lv_at hl 4 rfl) ?_
            refine lv_dup hx hb d_Model_give_125 rfl ?_
            refine va_get (D := (dC, dI)) (ci := 8) (v := .int pi) (C := "PermitRulesModel") (T := T_Model) (N := 40) hx hb htb in_Model hown hK hP 0 rfl rfl 29 (by decide) (htb _ mb_682) (fun _ h9 => h9) rfl d_Model_give_126 ?_
            refine lv_iconst (v := 1) hx hb d_Model_give_129 (by decide) ?_
            refine lv_iadd hx hb d_Model_give_130 ?_
            refine va_put (D := (dC, dI)) (ci := 8) (v := .int (pi + 1)) (ty := .int) (C := "PermitRulesModel") (T := T_Model) (N := 40) hx hb htb in_Model ty_Model to_Model nm_Model hown hK hP hD hS 0 rfl rfl 29 (by decide) (htb _ mb_682) (fun _ h9 => h9) rfl (by decide +kernel) rfl rfl (Nat.le_of_ble_eq_true rfl) d_Model_give_131 (fun H locs hP hD hS => ?_)
            have hP : va_P (dC, dI) vwCl [(oM, .inr (8, [.int th, .ref mT, .int ml, .int ma, .int mk, .int mp, .long mv, .int mw, .ref mN, .ref mD, .ref mF, .ref mS, .ref mL, .ref mR, .ref mE, .ref mK, .ref mV, .int dr, .int dc, .int ds, .int ru, .int cl, .ref mO, .int os, .int fc, .ref mA, .ref mB, .ref mU, .ref mW, .int (pi + 1), .int wh, .long ms, .int aq, .int da, .ref mX, .ref mY, .long lu, .long ld, .long qu, .long qd])), (mU, .inl (cJ, 130, .inr (.inl (vp_updL up pi.toNatClampNeg (va / gx))))), (mW, .inl (cJ, 130, .inr (.inl (vp_updL dn pi.toNatClampNeg (vb / gx)))))] H := hP
            have hD : va_D A [(oM, .inr (8, [.int th, .ref mT, .int ml, .int ma, .int mk, .int mp, .long mv, .int mw, .ref mN, .ref mD, .ref mF, .ref mS, .ref mL, .ref mR, .ref mE, .ref mK, .ref mV, .int dr, .int dc, .int ds, .int ru, .int cl, .ref mO, .int os, .int fc, .ref mA, .ref mB, .ref mU, .ref mW, .int (pi + 1), .int wh, .long ms, .int aq, .int da, .ref mX, .ref mY, .long lu, .long ld, .long qu, .long qd])), (mU, .inl (cJ, 130, .inr (.inl (vp_updL up pi.toNatClampNeg (va / gx))))), (mW, .inl (cJ, 130, .inr (.inl (vp_updL dn pi.toNatClampNeg (vb / gx)))))] := hD
            have hP9 := hP.sub (ws' := [(oM, .inr (8, [.int th, .ref mT, .int ml, .int ma, .int mk, .int mp, .long mv, .int mw, .ref mN, .ref mD, .ref mF, .ref mS, .ref mL, .ref mR, .ref mE, .ref mK, .ref mV, .int dr, .int dc, .int ds, .int ru, .int cl, .ref mO, .int os, .int fc, .ref mA, .ref mB, .ref mU, .ref mW, .int (pi + 1), .int wh, .long ms, .int aq, .int da, .ref mX, .ref mY, .long lu, .long ld, .long qu, .long qd])), (mU, .inl (cJ, 130, .inr (.inl (vp_updL up pi.toNatClampNeg (va / gx))))), (mW, .inl (cJ, 130, .inr (.inl (vp_updL dn pi.toNatClampNeg (vb / gx)))))]) [0, 1, 2] rfl
            have hD9 := hD.sub (ws' := [(oM, .inr (8, [.int th, .ref mT, .int ml, .int ma, .int mk, .int mp, .long mv, .int mw, .ref mN, .ref mD, .ref mF, .ref mS, .ref mL, .ref mR, .ref mE, .ref mK, .ref mV, .int dr, .int dc, .int ds, .int ru, .int cl, .ref mO, .int os, .int fc, .ref mA, .ref mB, .ref mU, .ref mW, .int (pi + 1), .int wh, .long ms, .int aq, .int da, .ref mX, .ref mY, .long lu, .long ld, .long qu, .long qd])), (mU, .inl (cJ, 130, .inr (.inl (vp_updL up pi.toNatClampNeg (va / gx))))), (mW, .inl (cJ, 130, .inr (.inl (vp_updL dn pi.toNatClampNeg (vb / gx)))))]) [0, 1, 2] (by decide) rfl
            exact W.vret hx hb hr (fun t ht hW => ⟨⟨(pi + 1, wh, vp_updL up pi.toNatClampNeg (va / gx), vp_updL dn pi.toNatClampNeg (vb / gx)), rfl, by rw [hF], by rw [ht]; exact hP9, hD9⟩, hS.F ht⟩) hS.2.2 d_Model_give_134
          · have hF := hF.trans (if_neg c_4)
            refine lv_aload_n hx hb d_Model_give_84 rfl (lv_at hl 4 rfl) ?_
            refine lv_lconst (v := 0) hx hb d_Model_give_85 (by decide) ?_
            refine lv_lload hx hb d_Model_give_86 (lv_at hl 1 rfl) ?_
            have hPc := hP.sub (ws' := [(oM, .inr (8, [.int th, .ref mT, .int ml, .int ma, .int mk, .int mp, .long mv, .int mw, .ref mN, .ref mD, .ref mF, .ref mS, .ref mL, .ref mR, .ref mE, .ref mK, .ref mV, .int dr, .int dc, .int ds, .int ru, .int cl, .ref mO, .int os, .int fc, .ref mA, .ref mB, .ref mU, .ref mW, .int pi, .int wh, .long ms, .int aq, .int da, .ref mX, .ref mY, .long lu, .long ld, .long qu, .long qd]))]) [0] rfl
            have hDc := hD.sub (ws' := [(oM, .inr (8, [.int th, .ref mT, .int ml, .int ma, .int mk, .int mp, .long mv, .int mw, .ref mN, .ref mD, .ref mF, .ref mS, .ref mL, .ref mR, .ref mE, .ref mK, .ref mV, .int dr, .int dc, .int ds, .int ru, .int cl, .ref mO, .int os, .int fc, .ref mA, .ref mB, .ref mU, .ref mW, .int pi, .int wh, .long ms, .int aq, .int da, .ref mX, .ref mY, .long lu, .long ld, .long qu, .long qd]))]) [0] (by decide) rfl
            have hFc := va_free (wc := [(oM, .inr (8, [.int th, .ref mT, .int ml, .int ma, .int mk, .int mp, .long mv, .int mw, .ref mN, .ref mD, .ref mF, .ref mS, .ref mL, .ref mR, .ref mE, .ref mK, .ref mV, .int dr, .int dc, .int ds, .int ru, .int cl, .ref mO, .int os, .int fc, .ref mA, .ref mB, .ref mU, .ref mW, .int pi, .int wh, .long ms, .int aq, .int da, .ref mX, .ref mY, .long lu, .long ld, .long qu, .long qd]))]) hD hS hA [0] rfl
            refine va_calll (va_runV (As := [.long 0, .long (va / gx)]) (rest := []) ⟨hx, hb, hml, hown, htb⟩ (c_Model_less l dC dI cB cI cJ oM mT mN mD mF mS mL mR mE mK mV mO mA mB mU mW mX mY _ 0 (va / gx) th ml ma mk mp mv mw dr dc ds ru cl os fc pi wh ms aq da lu ld qu qd ) ⟨callB_of 2 htb (gb_all mb_890) rfl rfl rfl (htb _ mb_9) (htb _ mb_887) (by decide +kernel) ⟨Nat.le_of_ble_eq_true rfl, Nat.le_of_ble_eq_true rfl⟩, htb _ mb_889, htb _ mp_31⟩ ⟨kb_blind, va_recv hK hPc (ci := 8) (q0 := 0) rfl rfl, kb_at hPc hDc hKx⟩ rfl rfl hl.1 rfl (lv_room (Nat.le_of_ble_eq_true rfl)) d_Model_give_88 ⟨Nat.le_of_ble_eq_true rfl, Nat.le_of_ble_eq_true rfl⟩) hS (fun q _ h => hFc q h) hFc (fun r u t H1 locs ht hvm hw hB hz1 hk1 hS => ?_)
            obtain ⟨z_5, hzz_5⟩ : ∃ z, z = f_Model_less 0 (va / gx) wh := ⟨_, rfl⟩
            rw [← hzz_5] at hw
            obtain ⟨rfl, rfl⟩ := hw
            have hF := hF.trans (lt_e hzz_5)
            obtain ⟨hP1, hD1⟩ := hB
            rw [ht] at hP1
            obtain ⟨hP, hD⟩ := va_join (wr := [(mU, .inl (cJ, 130, .inr (.inl up))), (mW, .inl (cJ, 130, .inr (.inl dn)))]) (w1 := [(oM, .inr (8, [.int th, .ref mT, .int ml, .int ma, .int mk, .int mp, .long mv, .int mw, .ref mN, .ref mD, .ref mF, .ref mS, .ref mL, .ref mR, .ref mE, .ref mK, .ref mV, .int dr, .int dc, .int ds, .int ru, .int cl, .ref mO, .int os, .int fc, .ref mA, .ref mB, .ref mU, .ref mW, .int pi, .int z_5.2, .long ms, .int aq, .int da, .ref mX, .ref mY, .long lu, .long ld, .long qu, .long qd]))]) hP hD [0] [1, 2] rfl rfl (by decide) (by decide) hk1 hFc hP1 hD1
            generalize H1 = H at hP hS ⊢
            have hP : va_P (dC, dI) vwCl [(mU, .inl (cJ, 130, .inr (.inl up))), (mW, .inl (cJ, 130, .inr (.inl dn))), (oM, .inr (8, [.int th, .ref mT, .int ml, .int ma, .int mk, .int mp, .long mv, .int mw, .ref mN, .ref mD, .ref mF, .ref mS, .ref mL, .ref mR, .ref mE, .ref mK, .ref mV, .int dr, .int dc, .int ds, .int ru, .int cl, .ref mO, .int os, .int fc, .ref mA, .ref mB, .ref mU, .ref mW, .int pi, .int z_5.2, .long ms, .int aq, .int da, .ref mX, .ref mY, .long lu, .long ld, .long qu, .long qd]))] H := hP
            have hD : va_D A [(mU, .inl (cJ, 130, .inr (.inl up))), (mW, .inl (cJ, 130, .inr (.inl dn))), (oM, .inr (8, [.int th, .ref mT, .int ml, .int ma, .int mk, .int mp, .long mv, .int mw, .ref mN, .ref mD, .ref mF, .ref mS, .ref mL, .ref mR, .ref mE, .ref mK, .ref mV, .int dr, .int dc, .int ds, .int ru, .int cl, .ref mO, .int os, .int fc, .ref mA, .ref mB, .ref mU, .ref mW, .int pi, .int z_5.2, .long ms, .int aq, .int da, .ref mX, .ref mY, .long lu, .long ld, .long qu, .long qd]))] := hD
            refine lv_lstore (lv' := [(9, .long z_5.1), (11, .long (vb / gx)), (5, .long gx), (7, .long gy), (0, .ref oM), (1, .long va), (3, .long vb)]) hx hb d_Model_give_91 hl (by decide) rfl (fun ls hl => ?_)
            refine lv_aload_n hx hb d_Model_give_93 rfl (lv_at hl 4 rfl) ?_
            refine lv_lconst (v := 0) hx hb d_Model_give_94 (by decide) ?_
            refine lv_lload hx hb d_Model_give_95 (lv_at hl 1 rfl) ?_
            have hPc := hP.sub (ws' := [(oM, .inr (8, [.int th, .ref mT, .int ml, .int ma, .int mk, .int mp, .long mv, .int mw, .ref mN, .ref mD, .ref mF, .ref mS, .ref mL, .ref mR, .ref mE, .ref mK, .ref mV, .int dr, .int dc, .int ds, .int ru, .int cl, .ref mO, .int os, .int fc, .ref mA, .ref mB, .ref mU, .ref mW, .int pi, .int z_5.2, .long ms, .int aq, .int da, .ref mX, .ref mY, .long lu, .long ld, .long qu, .long qd]))]) [2] rfl
            have hDc := hD.sub (ws' := [(oM, .inr (8, [.int th, .ref mT, .int ml, .int ma, .int mk, .int mp, .long mv, .int mw, .ref mN, .ref mD, .ref mF, .ref mS, .ref mL, .ref mR, .ref mE, .ref mK, .ref mV, .int dr, .int dc, .int ds, .int ru, .int cl, .ref mO, .int os, .int fc, .ref mA, .ref mB, .ref mU, .ref mW, .int pi, .int z_5.2, .long ms, .int aq, .int da, .ref mX, .ref mY, .long lu, .long ld, .long qu, .long qd]))]) [2] (by decide) rfl
            have hFc := va_free (wc := [(oM, .inr (8, [.int th, .ref mT, .int ml, .int ma, .int mk, .int mp, .long mv, .int mw, .ref mN, .ref mD, .ref mF, .ref mS, .ref mL, .ref mR, .ref mE, .ref mK, .ref mV, .int dr, .int dc, .int ds, .int ru, .int cl, .ref mO, .int os, .int fc, .ref mA, .ref mB, .ref mU, .ref mW, .int pi, .int z_5.2, .long ms, .int aq, .int da, .ref mX, .ref mY, .long lu, .long ld, .long qu, .long qd]))]) hD hS hA [2] rfl
            refine va_calll (va_runV (As := [.long 0, .long (vb / gx)]) (rest := []) ⟨hx, hb, hml, hown, htb⟩ (c_Model_less l dC dI cB cI cJ oM mT mN mD mF mS mL mR mE mK mV mO mA mB mU mW mX mY _ 0 (vb / gx) th ml ma mk mp mv mw dr dc ds ru cl os fc pi z_5.2 ms aq da lu ld qu qd ) ⟨callB_of 2 htb (gb_all mb_890) rfl rfl rfl (htb _ mb_9) (htb _ mb_887) (by decide +kernel) ⟨Nat.le_of_ble_eq_true rfl, Nat.le_of_ble_eq_true rfl⟩, htb _ mb_889, htb _ mp_31⟩ ⟨kb_blind, va_recv hK hPc (ci := 8) (q0 := 0) rfl rfl, kb_at hPc hDc hKx⟩ rfl rfl hl.1 rfl (lv_room (Nat.le_of_ble_eq_true rfl)) d_Model_give_97 ⟨Nat.le_of_ble_eq_true rfl, Nat.le_of_ble_eq_true rfl⟩) hS (fun q _ h => hFc q h) hFc (fun r u t H1 locs ht hvm hw hB hz1 hk1 hS => ?_)
            obtain ⟨z_6, hzz_6⟩ : ∃ z, z = f_Model_less 0 (vb / gx) z_5.2 := ⟨_, rfl⟩
            rw [← hzz_6] at hw
            obtain ⟨rfl, rfl⟩ := hw
            have hF := hF.trans (lt_e hzz_6)
            obtain ⟨hP1, hD1⟩ := hB
            rw [ht] at hP1
            obtain ⟨hP, hD⟩ := va_join (wr := [(mU, .inl (cJ, 130, .inr (.inl up))), (mW, .inl (cJ, 130, .inr (.inl dn)))]) (w1 := [(oM, .inr (8, [.int th, .ref mT, .int ml, .int ma, .int mk, .int mp, .long mv, .int mw, .ref mN, .ref mD, .ref mF, .ref mS, .ref mL, .ref mR, .ref mE, .ref mK, .ref mV, .int dr, .int dc, .int ds, .int ru, .int cl, .ref mO, .int os, .int fc, .ref mA, .ref mB, .ref mU, .ref mW, .int pi, .int z_6.2, .long ms, .int aq, .int da, .ref mX, .ref mY, .long lu, .long ld, .long qu, .long qd]))]) hP hD [2] [0, 1] rfl rfl (by decide) (by decide) hk1 hFc hP1 hD1
            generalize H1 = H at hP hS ⊢
            have hP : va_P (dC, dI) vwCl [(mU, .inl (cJ, 130, .inr (.inl up))), (mW, .inl (cJ, 130, .inr (.inl dn))), (oM, .inr (8, [.int th, .ref mT, .int ml, .int ma, .int mk, .int mp, .long mv, .int mw, .ref mN, .ref mD, .ref mF, .ref mS, .ref mL, .ref mR, .ref mE, .ref mK, .ref mV, .int dr, .int dc, .int ds, .int ru, .int cl, .ref mO, .int os, .int fc, .ref mA, .ref mB, .ref mU, .ref mW, .int pi, .int z_6.2, .long ms, .int aq, .int da, .ref mX, .ref mY, .long lu, .long ld, .long qu, .long qd]))] H := hP
            have hD : va_D A [(mU, .inl (cJ, 130, .inr (.inl up))), (mW, .inl (cJ, 130, .inr (.inl dn))), (oM, .inr (8, [.int th, .ref mT, .int ml, .int ma, .int mk, .int mp, .long mv, .int mw, .ref mN, .ref mD, .ref mF, .ref mS, .ref mL, .ref mR, .ref mE, .ref mK, .ref mV, .int dr, .int dc, .int ds, .int ru, .int cl, .ref mO, .int os, .int fc, .ref mA, .ref mB, .ref mU, .ref mW, .int pi, .int z_6.2, .long ms, .int aq, .int da, .ref mX, .ref mY, .long lu, .long ld, .long qu, .long qd]))] := hD
            refine lv_lstore (lv' := [(11, .long z_6.1), (9, .long z_5.1), (5, .long gx), (7, .long gy), (0, .ref oM), (1, .long va), (3, .long vb)]) hx hb d_Model_give_100 hl (by decide) rfl (fun ls hl => ?_)
            refine lv_aload_n hx hb d_Model_give_102 rfl (lv_at hl 4 rfl) ?_
            refine va_get (D := (dC, dI)) (ci := 8) (v := .ref mU) (C := "PermitRulesModel") (T := T_Model) (N := 40) hx hb htb in_Model hown hK hP 2 rfl rfl 27 (by decide) (htb _ mb_680) (fun _ h9 => h9) rfl d_Model_give_103 ?_
            refine lv_aload_n hx hb d_Model_give_106 rfl (lv_at hl 4 rfl) ?_
            refine va_get (D := (dC, dI)) (ci := 8) (v := .int pi) (C := "PermitRulesModel") (T := T_Model) (N := 40) hx hb htb in_Model hown hK hP 2 rfl rfl 29 (by decide) (htb _ mb_682) (fun _ h9 => h9) rfl d_Model_give_107 ?_
            refine lv_lload hx hb d_Model_give_110 (lv_at hl 1 rfl) ?_
            refine va_last hx hb hK hP hD hS 0 2 rfl rfl (ib_in (Eq.refl pi.toInt) (by omega) (by omega)) d_Model_give_112 (fun H locs hP hD hS => ?_)
            have hP : va_P (dC, dI) vwCl [(mU, .inl (cJ, 130, .inr (.inl (vp_updL up pi.toNatClampNeg z_5.1)))), (mW, .inl (cJ, 130, .inr (.inl dn))), (oM, .inr (8, [.int th, .ref mT, .int ml, .int ma, .int mk, .int mp, .long mv, .int mw, .ref mN, .ref mD, .ref mF, .ref mS, .ref mL, .ref mR, .ref mE, .ref mK, .ref mV, .int dr, .int dc, .int ds, .int ru, .int cl, .ref mO, .int os, .int fc, .ref mA, .ref mB, .ref mU, .ref mW, .int pi, .int z_6.2, .long ms, .int aq, .int da, .ref mX, .ref mY, .long lu, .long ld, .long qu, .long qd]))] H := hP
            have hD : va_D A [(mU, .inl (cJ, 130, .inr (.inl (vp_updL up pi.toNatClampNeg z_5.1)))), (mW, .inl (cJ, 130, .inr (.inl dn))), (oM, .inr (8, [.int th, .ref mT, .int ml, .int ma, .int mk, .int mp, .long mv, .int mw, .ref mN, .ref mD, .ref mF, .ref mS, .ref mL, .ref mR, .ref mE, .ref mK, .ref mV, .int dr, .int dc, .int ds, .int ru, .int cl, .ref mO, .int os, .int fc, .ref mA, .ref mB, .ref mU, .ref mW, .int pi, .int z_6.2, .long ms, .int aq, .int da, .ref mX, .ref mY, .long lu, .long ld, .long qu, .long qd]))] := hD
            refine lv_aload_n hx hb d_Model_give_113 rfl (lv_at hl 4 rfl) ?_
            refine va_get (D := (dC, dI)) (ci := 8) (v := .ref mW) (C := "PermitRulesModel") (T := T_Model) (N := 40) hx hb htb in_Model hown hK hP 2 rfl rfl 28 (by decide) (htb _ mb_681) (fun _ h9 => h9) rfl d_Model_give_114 ?_
            refine lv_aload_n hx hb d_Model_give_117 rfl (lv_at hl 4 rfl) ?_
            refine va_get (D := (dC, dI)) (ci := 8) (v := .int pi) (C := "PermitRulesModel") (T := T_Model) (N := 40) hx hb htb in_Model hown hK hP 2 rfl rfl 29 (by decide) (htb _ mb_682) (fun _ h9 => h9) rfl d_Model_give_118 ?_
            refine lv_lload hx hb d_Model_give_121 (lv_at hl 0 rfl) ?_
            refine va_last hx hb hK hP hD hS 1 2 rfl rfl (ib_in (Eq.refl pi.toInt) (by omega) (by omega)) d_Model_give_123 (fun H locs hP hD hS => ?_)
            have hP : va_P (dC, dI) vwCl [(mU, .inl (cJ, 130, .inr (.inl (vp_updL up pi.toNatClampNeg z_5.1)))), (mW, .inl (cJ, 130, .inr (.inl (vp_updL dn pi.toNatClampNeg z_6.1)))), (oM, .inr (8, [.int th, .ref mT, .int ml, .int ma, .int mk, .int mp, .long mv, .int mw, .ref mN, .ref mD, .ref mF, .ref mS, .ref mL, .ref mR, .ref mE, .ref mK, .ref mV, .int dr, .int dc, .int ds, .int ru, .int cl, .ref mO, .int os, .int fc, .ref mA, .ref mB, .ref mU, .ref mW, .int pi, .int z_6.2, .long ms, .int aq, .int da, .ref mX, .ref mY, .long lu, .long ld, .long qu, .long qd]))] H := hP
            have hD : va_D A [(mU, .inl (cJ, 130, .inr (.inl (vp_updL up pi.toNatClampNeg z_5.1)))), (mW, .inl (cJ, 130, .inr (.inl (vp_updL dn pi.toNatClampNeg z_6.1)))), (oM, .inr (8, [.int th, .ref mT, .int ml, .int ma, .int mk, .int mp, .long mv, .int mw, .ref mN, .ref mD, .ref mF, .ref mS, .ref mL, .ref mR, .ref mE, .ref mK, .ref mV, .int dr, .int dc, .int ds, .int ru, .int cl, .ref mO, .int os, .int fc, .ref mA, .ref mB, .ref mU, .ref mW, .int pi, .int z_6.2, .long ms, .int aq, .int da, .ref mX, .ref mY, .long lu, .long ld, .long qu, .long qd]))] := hD
            refine lv_aload_n hx hb d_Model_give_124 rfl (lv_at hl 4 rfl) ?_
            refine lv_dup hx hb d_Model_give_125 rfl ?_
            refine va_get (D := (dC, dI)) (ci := 8) (v := .int pi) (C := "PermitRulesModel") (T := T_Model) (N := 40) hx hb htb in_Model hown hK hP 2 rfl rfl 29 (by decide) (htb _ mb_682) (fun _ h9 => h9) rfl d_Model_give_126 ?_
            refine lv_iconst (v := 1) hx hb d_Model_give_129 (by decide) ?_
            refine lv_iadd hx hb d_Model_give_130 ?_
            refine va_put (D := (dC, dI)) (ci := 8) (v := .int (pi + 1)) (ty := .int) (C := "PermitRulesModel") (T := T_Model) (N := 40) hx hb htb in_Model ty_Model to_Model nm_Model hown hK hP hD hS 2 rfl rfl 29 (by decide) (htb _ mb_682) (fun _ h9 => h9) rfl (by decide +kernel) rfl rfl (Nat.le_of_ble_eq_true rfl) d_Model_give_131 (fun H locs hP hD hS => ?_)
            have hP : va_P (dC, dI) vwCl [(mU, .inl (cJ, 130, .inr (.inl (vp_updL up pi.toNatClampNeg z_5.1)))), (mW, .inl (cJ, 130, .inr (.inl (vp_updL dn pi.toNatClampNeg z_6.1)))), (oM, .inr (8, [.int th, .ref mT, .int ml, .int ma, .int mk, .int mp, .long mv, .int mw, .ref mN, .ref mD, .ref mF, .ref mS, .ref mL, .ref mR, .ref mE, .ref mK, .ref mV, .int dr, .int dc, .int ds, .int ru, .int cl, .ref mO, .int os, .int fc, .ref mA, .ref mB, .ref mU, .ref mW, .int (pi + 1), .int z_6.2, .long ms, .int aq, .int da, .ref mX, .ref mY, .long lu, .long ld, .long qu, .long qd]))] H := hP
            have hD : va_D A [(mU, .inl (cJ, 130, .inr (.inl (vp_updL up pi.toNatClampNeg z_5.1)))), (mW, .inl (cJ, 130, .inr (.inl (vp_updL dn pi.toNatClampNeg z_6.1)))), (oM, .inr (8, [.int th, .ref mT, .int ml, .int ma, .int mk, .int mp, .long mv, .int mw, .ref mN, .ref mD, .ref mF, .ref mS, .ref mL, .ref mR, .ref mE, .ref mK, .ref mV, .int dr, .int dc, .int ds, .int ru, .int cl, .ref mO, .int os, .int fc, .ref mA, .ref mB, .ref mU, .ref mW, .int (pi + 1), .int z_6.2, .long ms, .int aq, .int da, .ref mX, .ref mY, .long lu, .long ld, .long qu, .long qd]))] := hD
            have hP9 := hP.sub (ws' := [(oM, .inr (8, [.int th, .ref mT, .int ml, .int ma, .int mk, .int mp, .long mv, .int mw, .ref mN, .ref mD, .ref mF, .ref mS, .ref mL, .ref mR, .ref mE, .ref mK, .ref mV, .int dr, .int dc, .int ds, .int ru, .int cl, .ref mO, .int os, .int fc, .ref mA, .ref mB, .ref mU, .ref mW, .int (pi + 1), .int z_6.2, .long ms, .int aq, .int da, .ref mX, .ref mY, .long lu, .long ld, .long qu, .long qd])), (mU, .inl (cJ, 130, .inr (.inl (vp_updL up pi.toNatClampNeg z_5.1)))), (mW, .inl (cJ, 130, .inr (.inl (vp_updL dn pi.toNatClampNeg z_6.1))))]) [2, 0, 1] rfl
            have hD9 := hD.sub (ws' := [(oM, .inr (8, [.int th, .ref mT, .int ml, .int ma, .int mk, .int mp, .long mv, .int mw, .ref mN, .ref mD, .ref mF, .ref mS, .ref mL, .ref mR, .ref mE, .ref mK, .ref mV, .int dr, .int dc, .int ds, .int ru, .int cl, .ref mO, .int os, .int fc, .ref mA, .ref mB, .ref mU, .ref mW, .int (pi + 1), .int z_6.2, .long ms, .int aq, .int da, .ref mX, .ref mY, .long lu, .long ld, .long qu, .long qd])), (mU, .inl (cJ, 130, .inr (.inl (vp_updL up pi.toNatClampNeg z_5.1)))), (mW, .inl (cJ, 130, .inr (.inl (vp_updL dn pi.toNatClampNeg z_6.1))))]) [2, 0, 1] (by decide) rfl
            exact W.vret hx hb hr (fun t ht hW => ⟨⟨(pi + 1, z_6.2, vp_updL up pi.toNatClampNeg z_5.1, vp_updL dn pi.toNatClampNeg z_6.1), rfl, by rw [hF], by rw [ht]; exact hP9, hD9⟩, hS.F ht⟩) hS.2.2 d_Model_give_134
        · have hF := hF.trans (if_neg c_3)
          refine lv_lload hx hb d_Model_give_46 (lv_at hl 1 rfl) ?_
          refine lv_ldc2 (v := (-9223372036854775808)) hx hb hown (htb _ mb_886) d_Model_give_48 ?_
          refine W.lcmp hx hb d_Model_give_51 ?_
          refine lv_if_eq (tgt := 61) hx hb d_Model_give_52 (by decide) (fun c_7 => ?_) (fun c_7 => ?_)
          · have hF := hF.trans (if_pos c_7)
            refine lv_lload hx hb d_Model_give_61 (lv_at hl 1 rfl) ?_
            refine lv_lstore (lv' := [(5, .long gx), (7, .long gy), (0, .ref oM), (1, .long va), (3, .long vb)]) hx hb d_Model_give_63 hl (by decide) rfl (fun ls hl => ?_)
            refine lv_lload_n hx hb d_Model_give_65 rfl (lv_at hl 3 rfl) ?_
            refine lv_lload hx hb d_Model_give_66 (lv_at hl 0 rfl) ?_
            refine lv_ldiv hx hb d_Model_give_68 (gv_nz hg c_2) ?_
            refine lv_lstore (lv' := [(9, .long (va / gx)), (5, .long gx), (7, .long gy), (0, .ref oM), (1, .long va), (3, .long vb)]) hx hb d_Model_give_69 hl (by decide) rfl (fun ls hl => ?_)
            refine lv_lload_n hx hb d_Model_give_71 rfl (lv_at hl 5 rfl) ?_
            refine lv_lload hx hb d_Model_give_72 (lv_at hl 1 rfl) ?_
            refine lv_ldiv hx hb d_Model_give_74 (gv_nz hg c_2) ?_
            refine lv_lstore (lv' := [(11, .long (vb / gx)), (9, .long (va / gx)), (5, .long gx), (7, .long gy), (0, .ref oM), (1, .long va), (3, .long vb)]) hx hb d_Model_give_75 hl (by decide) rfl (fun ls hl => ?_)
            refine lv_lload hx hb d_Model_give_77 (lv_at hl 0 rfl) ?_
            refine lv_lconst (v := 0) hx hb d_Model_give_79 (by decide) ?_
            refine W.lcmp hx hb d_Model_give_80 ?_
            refine lv_if_ge (tgt := 102) hx hb d_Model_give_81 (by decide) (fun c_8 => ?_) (fun c_8 => ?_)
            · have hF := hF.trans (if_pos c_8)
              refine lv_aload_n hx hb d_Model_give_102 rfl (lv_at hl 4 rfl) ?_
              refine va_get (D := (dC, dI)) (ci := 8) (v := .ref mU) (C := "PermitRulesModel") (T := T_Model) (N := 40) hx hb htb in_Model hown hK hP 0 rfl rfl 27 (by decide) (htb _ mb_680) (fun _ h9 => h9) rfl d_Model_give_103 ?_
              refine lv_aload_n hx hb d_Model_give_106 rfl (lv_at hl 4 rfl) ?_
              refine va_get (D := (dC, dI)) (ci := 8) (v := .int pi) (C := "PermitRulesModel") (T := T_Model) (N := 40) hx hb htb in_Model hown hK hP 0 rfl rfl 29 (by decide) (htb _ mb_682) (fun _ h9 => h9) rfl d_Model_give_107 ?_
              refine lv_lload hx hb d_Model_give_110 (lv_at hl 1 rfl) ?_
              refine va_last hx hb hK hP hD hS 1 2 rfl rfl (ib_in (Eq.refl pi.toInt) (by omega) (by omega)) d_Model_give_112 (fun H locs hP hD hS => ?_)
              have hP : va_P (dC, dI) vwCl [(oM, .inr (8, [.int th, .ref mT, .int ml, .int ma, .int mk, .int mp, .long mv, .int mw, .ref mN, .ref mD, .ref mF, .ref mS, .ref mL, .ref mR, .ref mE, .ref mK, .ref mV, .int dr, .int dc, .int ds, .int ru, .int cl, .ref mO, .int os, .int fc, .ref mA, .ref mB, .ref mU, .ref mW, .int pi, .int wh, .long ms, .int aq, .int da, .ref mX, .ref mY, .long lu, .long ld, .long qu, .long qd])), (mU, .inl (cJ, 130, .inr (.inl (vp_updL up pi.toNatClampNeg (va / gx))))), (mW, .inl (cJ, 130, .inr (.inl dn)))] H := hP
              have hD : va_D A [(oM, .inr (8, [.int th, .ref mT, .int ml, .int ma, .int mk, .int mp, .long mv, .int mw, .ref mN, .ref mD, .ref mF, .ref mS, .ref mL, .ref mR, .ref mE, .ref mK, .ref mV, .int dr, .int dc, .int ds, .int ru, .int cl, .ref mO, .int os, .int fc, .ref mA, .ref mB, .ref mU, .ref mW, .int pi, .int wh, .long ms, .int aq, .int da, .ref mX, .ref mY, .long lu, .long ld, .long qu, .long qd])), (mU, .inl (cJ, 130, .inr (.inl (vp_updL up pi.toNatClampNeg (va / gx))))), (mW, .inl (cJ, 130, .inr (.inl dn)))] := hD
              refine lv_aload_n hx hb d_Model_give_113 rfl (lv_at hl 4 rfl) ?_
              refine va_get (D := (dC, dI)) (ci := 8) (v := .ref mW) (C := "PermitRulesModel") (T := T_Model) (N := 40) hx hb htb in_Model hown hK hP 0 rfl rfl 28 (by decide) (htb _ mb_681) (fun _ h9 => h9) rfl d_Model_give_114 ?_
              refine lv_aload_n hx hb d_Model_give_117 rfl (lv_at hl 4 rfl) ?_
              refine va_get (D := (dC, dI)) (ci := 8) (v := .int pi) (C := "PermitRulesModel") (T := T_Model) (N := 40) hx hb htb in_Model hown hK hP 0 rfl rfl 29 (by decide) (htb _ mb_682) (fun _ h9 => h9) rfl d_Model_give_118 ?_
              refine lv_lload hx hb d_Model_give_121 (lv_at hl 0 rfl) ?_
              refine va_last hx hb hK hP hD hS 2 2 rfl rfl (ib_in (Eq.refl pi.toInt) (by omega) (by omega)) d_Model_give_123 (fun H locs hP hD hS => ?_)
              have hP : va_P (dC, dI) vwCl [(oM, .inr (8, [.int th, .ref mT, .int ml, .int ma, .int mk, .int mp, .long mv, .int mw, .ref mN, .ref mD, .ref mF, .ref mS, .ref mL, .ref mR, .ref mE, .ref mK, .ref mV, .int dr, .int dc, .int ds, .int ru, .int cl, .ref mO, .int os, .int fc, .ref mA, .ref mB, .ref mU, .ref mW, .int pi, .int wh, .long ms, .int aq, .int da, .ref mX, .ref mY, .long lu, .long ld, .long qu, .long qd])), (mU, .inl (cJ, 130, .inr (.inl (vp_updL up pi.toNatClampNeg (va / gx))))), (mW, .inl (cJ, 130, .inr (.inl (vp_updL dn pi.toNatClampNeg (vb / gx)))))] H := hP
              have hD : va_D A [(oM, .inr (8, [.int th, .ref mT, .int ml, .int ma, .int mk, .int mp, .long mv, .int mw, .ref mN, .ref mD, .ref mF, .ref mS, .ref mL, .ref mR, .ref mE, .ref mK, .ref mV, .int dr, .int dc, .int ds, .int ru, .int cl, .ref mO, .int os, .int fc, .ref mA, .ref mB, .ref mU, .ref mW, .int pi, .int wh, .long ms, .int aq, .int da, .ref mX, .ref mY, .long lu, .long ld, .long qu, .long qd])), (mU, .inl (cJ, 130, .inr (.inl (vp_updL up pi.toNatClampNeg (va / gx))))), (mW, .inl (cJ, 130, .inr (.inl (vp_updL dn pi.toNatClampNeg (vb / gx)))))] := hD
              refine lv_aload_n hx hb d_Model_give_124 rfl (lv_at hl 4 rfl) ?_
              refine lv_dup hx hb d_Model_give_125 rfl ?_
              refine va_get (D := (dC, dI)) (ci := 8) (v := .int pi) (C := "PermitRulesModel") (T := T_Model) (N := 40) hx hb htb in_Model hown hK hP 0 rfl rfl 29 (by decide) (htb _ mb_682) (fun _ h9 => h9) rfl d_Model_give_126 ?_
              refine lv_iconst (v := 1) hx hb d_Model_give_129 (by decide) ?_
              refine lv_iadd hx hb d_Model_give_130 ?_
              refine va_put (D := (dC, dI)) (ci := 8) (v := .int (pi + 1)) (ty := .int) (C := "PermitRulesModel") (T := T_Model) (N := 40) hx hb htb in_Model ty_Model to_Model nm_Model hown hK hP hD hS 0 rfl rfl 29 (by decide) (htb _ mb_682) (fun _ h9 => h9) rfl (by decide +kernel) rfl rfl (Nat.le_of_ble_eq_true rfl) d_Model_give_131 (fun H locs hP hD hS => ?_)
              have hP : va_P (dC, dI) vwCl [(oM, .inr (8, [.int th, .ref mT, .int ml, .int ma, .int mk, .int mp, .long mv, .int mw, .ref mN, .ref mD, .ref mF, .ref mS, .ref mL, .ref mR, .ref mE, .ref mK, .ref mV, .int dr, .int dc, .int ds, .int ru, .int cl, .ref mO, .int os, .int fc, .ref mA, .ref mB, .ref mU, .ref mW, .int (pi + 1), .int wh, .long ms, .int aq, .int da, .ref mX, .ref mY, .long lu, .long ld, .long qu, .long qd])), (mU, .inl (cJ, 130, .inr (.inl (vp_updL up pi.toNatClampNeg (va / gx))))), (mW, .inl (cJ, 130, .inr (.inl (vp_updL dn pi.toNatClampNeg (vb / gx)))))] H := hP
              have hD : va_D A [(oM, .inr (8, [.int th, .ref mT, .int ml, .int ma, .int mk, .int mp, .long mv, .int mw, .ref mN, .ref mD, .ref mF, .ref mS, .ref mL, .ref mR, .ref mE, .ref mK, .ref mV, .int dr, .int dc, .int ds, .int ru, .int cl, .ref mO, .int os, .int fc, .ref mA, .ref mB, .ref mU, .ref mW, .int (pi + 1), .int wh, .long ms, .int aq, .int da, .ref mX, .ref mY, .long lu, .long ld, .long qu, .long qd])), (mU, .inl (cJ, 130, .inr (.inl (vp_updL up pi.toNatClampNeg (va / gx))))), (mW, .inl (cJ, 130, .inr (.inl (vp_updL dn pi.toNatClampNeg (vb / gx)))))] := hD
              have hP9 := hP.sub (ws' := [(oM, .inr (8, [.int th, .ref mT, .int ml, .int ma, .int mk, .int mp, .long mv, .int mw, .ref mN, .ref mD, .ref mF, .ref mS, .ref mL, .ref mR, .ref mE, .ref mK, .ref mV, .int dr, .int dc, .int ds, .int ru, .int cl, .ref mO, .int os, .int fc, .ref mA, .ref mB, .ref mU, .ref mW, .int (pi + 1), .int wh, .long ms, .int aq, .int da, .ref mX, .ref mY, .long lu, .long ld, .long qu, .long qd])), (mU, .inl (cJ, 130, .inr (.inl (vp_updL up pi.toNatClampNeg (va / gx))))), (mW, .inl (cJ, 130, .inr (.inl (vp_updL dn pi.toNatClampNeg (vb / gx)))))]) [0, 1, 2] rfl
              have hD9 := hD.sub (ws' := [(oM, .inr (8, [.int th, .ref mT, .int ml, .int ma, .int mk, .int mp, .long mv, .int mw, .ref mN, .ref mD, .ref mF, .ref mS, .ref mL, .ref mR, .ref mE, .ref mK, .ref mV, .int dr, .int dc, .int ds, .int ru, .int cl, .ref mO, .int os, .int fc, .ref mA, .ref mB, .ref mU, .ref mW, .int (pi + 1), .int wh, .long ms, .int aq, .int da, .ref mX, .ref mY, .long lu, .long ld, .long qu, .long qd])), (mU, .inl (cJ, 130, .inr (.inl (vp_updL up pi.toNatClampNeg (va / gx))))), (mW, .inl (cJ, 130, .inr (.inl (vp_updL dn pi.toNatClampNeg (vb / gx)))))]) [0, 1, 2] (by decide) rfl
              exact W.vret hx hb hr (fun t ht hW => ⟨⟨(pi + 1, wh, vp_updL up pi.toNatClampNeg (va / gx), vp_updL dn pi.toNatClampNeg (vb / gx)), rfl, by rw [hF], by rw [ht]; exact hP9, hD9⟩, hS.F ht⟩) hS.2.2 d_Model_give_134
            · have hF := hF.trans (if_neg c_8)
              refine lv_aload_n hx hb d_Model_give_84 rfl (lv_at hl 4 rfl) ?_
              refine lv_lconst (v := 0) hx hb d_Model_give_85 (by decide) ?_
              refine lv_lload hx hb d_Model_give_86 (lv_at hl 1 rfl) ?_
              have hPc := hP.sub (ws' := [(oM, .inr (8, [.int th, .ref mT, .int ml, .int ma, .int mk, .int mp, .long mv, .int mw, .ref mN, .ref mD, .ref mF, .ref mS, .ref mL, .ref mR, .ref mE, .ref mK, .ref mV, .int dr, .int dc, .int ds, .int ru, .int cl, .ref mO, .int os, .int fc, .ref mA, .ref mB, .ref mU, .ref mW, .int pi, .int wh, .long ms, .int aq, .int da, .ref mX, .ref mY, .long lu, .long ld, .long qu, .long qd]))]) [0] rfl
              have hDc := hD.sub (ws' := [(oM, .inr (8, [.int th, .ref mT, .int ml, .int ma, .int mk, .int mp, .long mv, .int mw, .ref mN, .ref mD, .ref mF, .ref mS, .ref mL, .ref mR, .ref mE, .ref mK, .ref mV, .int dr, .int dc, .int ds, .int ru, .int cl, .ref mO, .int os, .int fc, .ref mA, .ref mB, .ref mU, .ref mW, .int pi, .int wh, .long ms, .int aq, .int da, .ref mX, .ref mY, .long lu, .long ld, .long qu, .long qd]))]) [0] (by decide) rfl
              have hFc := va_free (wc := [(oM, .inr (8, [.int th, .ref mT, .int ml, .int ma, .int mk, .int mp, .long mv, .int mw, .ref mN, .ref mD, .ref mF, .ref mS, .ref mL, .ref mR, .ref mE, .ref mK, .ref mV, .int dr, .int dc, .int ds, .int ru, .int cl, .ref mO, .int os, .int fc, .ref mA, .ref mB, .ref mU, .ref mW, .int pi, .int wh, .long ms, .int aq, .int da, .ref mX, .ref mY, .long lu, .long ld, .long qu, .long qd]))]) hD hS hA [0] rfl
              refine va_calll (va_runV (As := [.long 0, .long (va / gx)]) (rest := []) ⟨hx, hb, hml, hown, htb⟩ (c_Model_less l dC dI cB cI cJ oM mT mN mD mF mS mL mR mE mK mV mO mA mB mU mW mX mY _ 0 (va / gx) th ml ma mk mp mv mw dr dc ds ru cl os fc pi wh ms aq da lu ld qu qd ) ⟨callB_of 2 htb (gb_all mb_890) rfl rfl rfl (htb _ mb_9) (htb _ mb_887) (by decide +kernel) ⟨Nat.le_of_ble_eq_true rfl, Nat.le_of_ble_eq_true rfl⟩, htb _ mb_889, htb _ mp_31⟩ ⟨kb_blind, va_recv hK hPc (ci := 8) (q0 := 0) rfl rfl, kb_at hPc hDc hKx⟩ rfl rfl hl.1 rfl (lv_room (Nat.le_of_ble_eq_true rfl)) d_Model_give_88 ⟨Nat.le_of_ble_eq_true rfl, Nat.le_of_ble_eq_true rfl⟩) hS (fun q _ h => hFc q h) hFc (fun r u t H1 locs ht hvm hw hB hz1 hk1 hS => ?_)
              obtain ⟨z_9, hzz_9⟩ : ∃ z, z = f_Model_less 0 (va / gx) wh := ⟨_, rfl⟩
              rw [← hzz_9] at hw
              obtain ⟨rfl, rfl⟩ := hw
              have hF := hF.trans (lt_e hzz_9)
              obtain ⟨hP1, hD1⟩ := hB
              rw [ht] at hP1
              obtain ⟨hP, hD⟩ := va_join (wr := [(mU, .inl (cJ, 130, .inr (.inl up))), (mW, .inl (cJ, 130, .inr (.inl dn)))]) (w1 := [(oM, .inr (8, [.int th, .ref mT, .int ml, .int ma, .int mk, .int mp, .long mv, .int mw, .ref mN, .ref mD, .ref mF, .ref mS, .ref mL, .ref mR, .ref mE, .ref mK, .ref mV, .int dr, .int dc, .int ds, .int ru, .int cl, .ref mO, .int os, .int fc, .ref mA, .ref mB, .ref mU, .ref mW, .int pi, .int z_9.2, .long ms, .int aq, .int da, .ref mX, .ref mY, .long lu, .long ld, .long qu, .long qd]))]) hP hD [0] [1, 2] rfl rfl (by decide) (by decide) hk1 hFc hP1 hD1
              generalize H1 = H at hP hS ⊢
              have hP : va_P (dC, dI) vwCl [(mU, .inl (cJ, 130, .inr (.inl up))), (mW, .inl (cJ, 130, .inr (.inl dn))), (oM, .inr (8, [.int th, .ref mT, .int ml, .int ma, .int mk, .int mp, .long mv, .int mw, .ref mN, .ref mD, .ref mF, .ref mS, .ref mL, .ref mR, .ref mE, .ref mK, .ref mV, .int dr, .int dc, .int ds, .int ru, .int cl, .ref mO, .int os, .int fc, .ref mA, .ref mB, .ref mU, .ref mW, .int pi, .int z_9.2, .long ms, .int aq, .int da, .ref mX, .ref mY, .long lu, .long ld, .long qu, .long qd]))] H := hP
              have hD : va_D A [(mU, .inl (cJ, 130, .inr (.inl up))), (mW, .inl (cJ, 130, .inr (.inl dn))), (oM, .inr (8, [.int th, .ref mT, .int ml, .int ma, .int mk, .int mp, .long mv, .int mw, .ref mN, .ref mD, .ref mF, .ref mS, .ref mL, .ref mR, .ref mE, .ref mK, .ref mV, .int dr, .int dc, .int ds, .int ru, .int cl, .ref mO, .int os, .int fc, .ref mA, .ref mB, .ref mU, .ref mW, .int pi, .int z_9.2, .long ms, .int aq, .int da, .ref mX, .ref mY, .long lu, .long ld, .long qu, .long qd]))] := hD
              refine lv_lstore (lv' := [(9, .long z_9.1), (11, .long (vb / gx)), (5, .long gx), (7, .long gy), (0, .ref oM), (1, .long va), (3, .long vb)]) hx hb d_Model_give_91 hl (by decide) rfl (fun ls hl => ?_)
              refine lv_aload_n hx hb d_Model_give_93 rfl (lv_at hl 4 rfl) ?_
              refine lv_lconst (v := 0) hx hb d_Model_give_94 (by decide) ?_
              refine lv_lload hx hb d_Model_give_95 (lv_at hl 1 rfl) ?_
              have hPc := hP.sub (ws' := [(oM, .inr (8, [.int th, .ref mT, .int ml, .int ma, .int mk, .int mp, .long mv, .int mw, .ref mN, .ref mD, .ref mF, .ref mS, .ref mL, .ref mR, .ref mE, .ref mK, .ref mV, .int dr, .int dc, .int ds, .int ru, .int cl, .ref mO, .int os, .int fc, .ref mA, .ref mB, .ref mU, .ref mW, .int pi, .int z_9.2, .long ms, .int aq, .int da, .ref mX, .ref mY, .long lu, .long ld, .long qu, .long qd]))]) [2] rfl
              have hDc := hD.sub (ws' := [(oM, .inr (8, [.int th, .ref mT, .int ml, .int ma, .int mk, .int mp, .long mv, .int mw, .ref mN, .ref mD, .ref mF, .ref mS, .ref mL, .ref mR, .ref mE, .ref mK, .ref mV, .int dr, .int dc, .int ds, .int ru, .int cl, .ref mO, .int os, .int fc, .ref mA, .ref mB, .ref mU, .ref mW, .int pi, .int z_9.2, .long ms, .int aq, .int da, .ref mX, .ref mY, .long lu, .long ld, .long qu, .long qd]))]) [2] (by decide) rfl
              have hFc := va_free (wc := [(oM, .inr (8, [.int th, .ref mT, .int ml, .int ma, .int mk, .int mp, .long mv, .int mw, .ref mN, .ref mD, .ref mF, .ref mS, .ref mL, .ref mR, .ref mE, .ref mK, .ref mV, .int dr, .int dc, .int ds, .int ru, .int cl, .ref mO, .int os, .int fc, .ref mA, .ref mB, .ref mU, .ref mW, .int pi, .int z_9.2, .long ms, .int aq, .int da, .ref mX, .ref mY, .long lu, .long ld, .long qu, .long qd]))]) hD hS hA [2] rfl
              refine va_calll (va_runV (As := [.long 0, .long (vb / gx)]) (rest := []) ⟨hx, hb, hml, hown, htb⟩ (c_Model_less l dC dI cB cI cJ oM mT mN mD mF mS mL mR mE mK mV mO mA mB mU mW mX mY _ 0 (vb / gx) th ml ma mk mp mv mw dr dc ds ru cl os fc pi z_9.2 ms aq da lu ld qu qd ) ⟨callB_of 2 htb (gb_all mb_890) rfl rfl rfl (htb _ mb_9) (htb _ mb_887) (by decide +kernel) ⟨Nat.le_of_ble_eq_true rfl, Nat.le_of_ble_eq_true rfl⟩, htb _ mb_889, htb _ mp_31⟩ ⟨kb_blind, va_recv hK hPc (ci := 8) (q0 := 0) rfl rfl, kb_at hPc hDc hKx⟩ rfl rfl hl.1 rfl (lv_room (Nat.le_of_ble_eq_true rfl)) d_Model_give_97 ⟨Nat.le_of_ble_eq_true rfl, Nat.le_of_ble_eq_true rfl⟩) hS (fun q _ h => hFc q h) hFc (fun r u t H1 locs ht hvm hw hB hz1 hk1 hS => ?_)
              obtain ⟨z_10, hzz_10⟩ : ∃ z, z = f_Model_less 0 (vb / gx) z_9.2 := ⟨_, rfl⟩
              rw [← hzz_10] at hw
              obtain ⟨rfl, rfl⟩ := hw
              have hF := hF.trans (lt_e hzz_10)
              obtain ⟨hP1, hD1⟩ := hB
              rw [ht] at hP1
              obtain ⟨hP, hD⟩ := va_join (wr := [(mU, .inl (cJ, 130, .inr (.inl up))), (mW, .inl (cJ, 130, .inr (.inl dn)))]) (w1 := [(oM, .inr (8, [.int th, .ref mT, .int ml, .int ma, .int mk, .int mp, .long mv, .int mw, .ref mN, .ref mD, .ref mF, .ref mS, .ref mL, .ref mR, .ref mE, .ref mK, .ref mV, .int dr, .int dc, .int ds, .int ru, .int cl, .ref mO, .int os, .int fc, .ref mA, .ref mB, .ref mU, .ref mW, .int pi, .int z_10.2, .long ms, .int aq, .int da, .ref mX, .ref mY, .long lu, .long ld, .long qu, .long qd]))]) hP hD [2] [0, 1] rfl rfl (by decide) (by decide) hk1 hFc hP1 hD1
              generalize H1 = H at hP hS ⊢
              have hP : va_P (dC, dI) vwCl [(mU, .inl (cJ, 130, .inr (.inl up))), (mW, .inl (cJ, 130, .inr (.inl dn))), (oM, .inr (8, [.int th, .ref mT, .int ml, .int ma, .int mk, .int mp, .long mv, .int mw, .ref mN, .ref mD, .ref mF, .ref mS, .ref mL, .ref mR, .ref mE, .ref mK, .ref mV, .int dr, .int dc, .int ds, .int ru, .int cl, .ref mO, .int os, .int fc, .ref mA, .ref mB, .ref mU, .ref mW, .int pi, .int z_10.2, .long ms, .int aq, .int da, .ref mX, .ref mY, .long lu, .long ld, .long qu, .long qd]))] H := hP
              have hD : va_D A [(mU, .inl (cJ, 130, .inr (.inl up))), (mW, .inl (cJ, 130, .inr (.inl dn))), (oM, .inr (8, [.int th, .ref mT, .int ml, .int ma, .int mk, .int mp, .long mv, .int mw, .ref mN, .ref mD, .ref mF, .ref mS, .ref mL, .ref mR, .ref mE, .ref mK, .ref mV, .int dr, .int dc, .int ds, .int ru, .int cl, .ref mO, .int os, .int fc, .ref mA, .ref mB, .ref mU, .ref mW, .int pi, .int z_10.2, .long ms, .int aq, .int da, .ref mX, .ref mY, .long lu, .long ld, .long qu, .long qd]))] := hD
              refine lv_lstore (lv' := [(11, .long z_10.1), (9, .long z_9.1), (5, .long gx), (7, .long gy), (0, .ref oM), (1, .long va), (3, .long vb)]) hx hb d_Model_give_100 hl (by decide) rfl (fun ls hl => ?_)
              refine lv_aload_n hx hb d_Model_give_102 rfl (lv_at hl 4 rfl) ?_
              refine va_get (D := (dC, dI)) (ci := 8) (v := .ref mU) (C := "PermitRulesModel") (T := T_Model) (N := 40) hx hb htb in_Model hown hK hP 2 rfl rfl 27 (by decide) (htb _ mb_680) (fun _ h9 => h9) rfl d_Model_give_103 ?_
              refine lv_aload_n hx hb d_Model_give_106 rfl (lv_at hl 4 rfl) ?_
              refine va_get (D := (dC, dI)) (ci := 8) (v := .int pi) (C := "PermitRulesModel") (T := T_Model) (N := 40) hx hb htb in_Model hown hK hP 2 rfl rfl 29 (by decide) (htb _ mb_682) (fun _ h9 => h9) rfl d_Model_give_107 ?_
              refine lv_lload hx hb d_Model_give_110 (lv_at hl 1 rfl) ?_
              refine va_last hx hb hK hP hD hS 0 2 rfl rfl (ib_in (Eq.refl pi.toInt) (by omega) (by omega)) d_Model_give_112 (fun H locs hP hD hS => ?_)
              have hP : va_P (dC, dI) vwCl [(mU, .inl (cJ, 130, .inr (.inl (vp_updL up pi.toNatClampNeg z_9.1)))), (mW, .inl (cJ, 130, .inr (.inl dn))), (oM, .inr (8, [.int th, .ref mT, .int ml, .int ma, .int mk, .int mp, .long mv, .int mw, .ref mN, .ref mD, .ref mF, .ref mS, .ref mL, .ref mR, .ref mE, .ref mK, .ref mV, .int dr, .int dc, .int ds, .int ru, .int cl, .ref mO, .int os, .int fc, .ref mA, .ref mB, .ref mU, .ref mW, .int pi, .int z_10.2, .long ms, .int aq, .int da, .ref mX, .ref mY, .long lu, .long ld, .long qu, .long qd]))] H := hP
              have hD : va_D A [(mU, .inl (cJ, 130, .inr (.inl (vp_updL up pi.toNatClampNeg z_9.1)))), (mW, .inl (cJ, 130, .inr (.inl dn))), (oM, .inr (8, [.int th, .ref mT, .int ml, .int ma, .int mk, .int mp, .long mv, .int mw, .ref mN, .ref mD, .ref mF, .ref mS, .ref mL, .ref mR, .ref mE, .ref mK, .ref mV, .int dr, .int dc, .int ds, .int ru, .int cl, .ref mO, .int os, .int fc, .ref mA, .ref mB, .ref mU, .ref mW, .int pi, .int z_10.2, .long ms, .int aq, .int da, .ref mX, .ref mY, .long lu, .long ld, .long qu, .long qd]))] := hD
              refine lv_aload_n hx hb d_Model_give_113 rfl (lv_at hl 4 rfl) ?_
              refine va_get (D := (dC, dI)) (ci := 8) (v := .ref mW) (C := "PermitRulesModel") (T := T_Model) (N := 40) hx hb htb in_Model hown hK hP 2 rfl rfl 28 (by decide) (htb _ mb_681) (fun _ h9 => h9) rfl d_Model_give_114 ?_
              refine lv_aload_n hx hb d_Model_give_117 rfl (lv_at hl 4 rfl) ?_
              refine va_get (D := (dC, dI)) (ci := 8) (v := .int pi) (C := "PermitRulesModel") (T := T_Model) (N := 40) hx hb htb in_Model hown hK hP 2 rfl rfl 29 (by decide) (htb _ mb_682) (fun _ h9 => h9) rfl d_Model_give_118 ?_
              refine lv_lload hx hb d_Model_give_121 (lv_at hl 0 rfl) ?_
              refine va_last hx hb hK hP hD hS 1 2 rfl rfl (ib_in (Eq.refl pi.toInt) (by omega) (by omega)) d_Model_give_123 (fun H locs hP hD hS => ?_)
              have hP : va_P (dC, dI) vwCl [(mU, .inl (cJ, 130, .inr (.inl (vp_updL up pi.toNatClampNeg z_9.1)))), (mW, .inl (cJ, 130, .inr (.inl (vp_updL dn pi.toNatClampNeg z_10.1)))), (oM, .inr (8, [.int th, .ref mT, .int ml, .int ma, .int mk, .int mp, .long mv, .int mw, .ref mN, .ref mD, .ref mF, .ref mS, .ref mL, .ref mR, .ref mE, .ref mK, .ref mV, .int dr, .int dc, .int ds, .int ru, .int cl, .ref mO, .int os, .int fc, .ref mA, .ref mB, .ref mU, .ref mW, .int pi, .int z_10.2, .long ms, .int aq, .int da, .ref mX, .ref mY, .long lu, .long ld, .long qu, .long qd]))] H := hP
              have hD : va_D A [(mU, .inl (cJ, 130, .inr (.inl (vp_updL up pi.toNatClampNeg z_9.1)))), (mW, .inl (cJ, 130, .inr (.inl (vp_updL dn pi.toNatClampNeg z_10.1)))), (oM, .inr (8, [.int th, .ref mT, .int ml, .int ma, .int mk, .int mp, .long mv, .int mw, .ref mN, .ref mD, .ref mF, .ref mS, .ref mL, .ref mR, .ref mE, .ref mK, .ref mV, .int dr, .int dc, .int ds, .int ru, .int cl, .ref mO, .int os, .int fc, .ref mA, .ref mB, .ref mU, .ref mW, .int pi, .int z_10.2, .long ms, .int aq, .int da, .ref mX, .ref mY, .long lu, .long ld, .long qu, .long qd]))] := hD
              refine lv_aload_n hx hb d_Model_give_124 rfl (lv_at hl 4 rfl) ?_
              refine lv_dup hx hb d_Model_give_125 rfl ?_
              refine va_get (D := (dC, dI)) (ci := 8) (v := .int pi) (C := "PermitRulesModel") (T := T_Model) (N := 40) hx hb htb in_Model hown hK hP 2 rfl rfl 29 (by decide) (htb _ mb_682) (fun _ h9 => h9) rfl d_Model_give_126 ?_
              refine lv_iconst (v := 1) hx hb d_Model_give_129 (by decide) ?_
              refine lv_iadd hx hb d_Model_give_130 ?_
              refine va_put (D := (dC, dI)) (ci := 8) (v := .int (pi + 1)) (ty := .int) (C := "PermitRulesModel") (T := T_Model) (N := 40) hx hb htb in_Model ty_Model to_Model nm_Model hown hK hP hD hS 2 rfl rfl 29 (by decide) (htb _ mb_682) (fun _ h9 => h9) rfl (by decide +kernel) rfl rfl (Nat.le_of_ble_eq_true rfl) d_Model_give_131 (fun H locs hP hD hS => ?_)
              have hP : va_P (dC, dI) vwCl [(mU, .inl (cJ, 130, .inr (.inl (vp_updL up pi.toNatClampNeg z_9.1)))), (mW, .inl (cJ, 130, .inr (.inl (vp_updL dn pi.toNatClampNeg z_10.1)))), (oM, .inr (8, [.int th, .ref mT, .int ml, .int ma, .int mk, .int mp, .long mv, .int mw, .ref mN, .ref mD, .ref mF, .ref mS, .ref mL, .ref mR, .ref mE, .ref mK, .ref mV, .int dr, .int dc, .int ds, .int ru, .int cl, .ref mO, .int os, .int fc, .ref mA, .ref mB, .ref mU, .ref mW, .int (pi + 1), .int z_10.2, .long ms, .int aq, .int da, .ref mX, .ref mY, .long lu, .long ld, .long qu, .long qd]))] H := hP
              have hD : va_D A [(mU, .inl (cJ, 130, .inr (.inl (vp_updL up pi.toNatClampNeg z_9.1)))), (mW, .inl (cJ, 130, .inr (.inl (vp_updL dn pi.toNatClampNeg z_10.1)))), (oM, .inr (8, [.int th, .ref mT, .int ml, .int ma, .int mk, .int mp, .long mv, .int mw, .ref mN, .ref mD, .ref mF, .ref mS, .ref mL, .ref mR, .ref mE, .ref mK, .ref mV, .int dr, .int dc, .int ds, .int ru, .int cl, .ref mO, .int os, .int fc, .ref mA, .ref mB, .ref mU, .ref mW, .int (pi + 1), .int z_10.2, .long ms, .int aq, .int da, .ref mX, .ref mY, .long lu, .long ld, .long qu, .long qd]))] := hD
              have hP9 := hP.sub (ws' := [(oM, .inr (8, [.int th, .ref mT, .int ml, .int ma, .int mk, .int mp, .long mv, .int mw, .ref mN, .ref mD, .ref mF, .ref mS, .ref mL, .ref mR, .ref mE, .ref mK, .ref mV, .int dr, .int dc, .int ds, .int ru, .int cl, .ref mO, .int os, .int fc, .ref mA, .ref mB, .ref mU, .ref mW, .int (pi + 1), .int z_10.2, .long ms, .int aq, .int da, .ref mX, .ref mY, .long lu, .long ld, .long qu, .long qd])), (mU, .inl (cJ, 130, .inr (.inl (vp_updL up pi.toNatClampNeg z_9.1)))), (mW, .inl (cJ, 130, .inr (.inl (vp_updL dn pi.toNatClampNeg z_10.1))))]) [2, 0, 1] rfl
              have hD9 := hD.sub (ws' := [(oM, .inr (8, [.int th, .ref mT, .int ml, .int ma, .int mk, .int mp, .long mv, .int mw, .ref mN, .ref mD, .ref mF, .ref mS, .ref mL, .ref mR, .ref mE, .ref mK, .ref mV, .int dr, .int dc, .int ds, .int ru, .int cl, .ref mO, .int os, .int fc, .ref mA, .ref mB, .ref mU, .ref mW, .int (pi + 1), .int z_10.2, .long ms, .int aq, .int da, .ref mX, .ref mY, .long lu, .long ld, .long qu, .long qd])), (mU, .inl (cJ, 130, .inr (.inl (vp_updL up pi.toNatClampNeg z_9.1)))), (mW, .inl (cJ, 130, .inr (.inl (vp_updL dn pi.toNatClampNeg z_10.1))))]) [2, 0, 1] (by decide) rfl
              exact W.vret hx hb hr (fun t ht hW => ⟨⟨(pi + 1, z_10.2, vp_updL up pi.toNatClampNeg z_9.1, vp_updL dn pi.toNatClampNeg z_10.1), rfl, by rw [hF], by rw [ht]; exact hP9, hD9⟩, hS.F ht⟩) hS.2.2 d_Model_give_134
          · have hF := hF.trans (if_neg c_7)
            refine lv_lload hx hb d_Model_give_55 (lv_at hl 1 rfl) ?_
            refine lv_lneg hx hb d_Model_give_57 ?_
            refine lv_goto (tgt := 63) hx hb d_Model_give_58 (by decide) ?_
            refine lv_lstore (lv' := [(5, .long (-gx)), (7, .long gy), (0, .ref oM), (1, .long va), (3, .long vb)]) hx hb d_Model_give_63 hl (by decide) rfl (fun ls hl => ?_)
            refine lv_lload_n hx hb d_Model_give_65 rfl (lv_at hl 3 rfl) ?_
            refine lv_lload hx hb d_Model_give_66 (lv_at hl 0 rfl) ?_
            refine lv_ldiv hx hb d_Model_give_68 (gv_nn hg c_2) ?_
            refine lv_lstore (lv' := [(9, .long (va / (-gx))), (5, .long (-gx)), (7, .long gy), (0, .ref oM), (1, .long va), (3, .long vb)]) hx hb d_Model_give_69 hl (by decide) rfl (fun ls hl => ?_)
            refine lv_lload_n hx hb d_Model_give_71 rfl (lv_at hl 5 rfl) ?_
            refine lv_lload hx hb d_Model_give_72 (lv_at hl 1 rfl) ?_
            refine lv_ldiv hx hb d_Model_give_74 (gv_nn hg c_2) ?_
            refine lv_lstore (lv' := [(11, .long (vb / (-gx))), (9, .long (va / (-gx))), (5, .long (-gx)), (7, .long gy), (0, .ref oM), (1, .long va), (3, .long vb)]) hx hb d_Model_give_75 hl (by decide) rfl (fun ls hl => ?_)
            refine lv_lload hx hb d_Model_give_77 (lv_at hl 0 rfl) ?_
            refine lv_lconst (v := 0) hx hb d_Model_give_79 (by decide) ?_
            refine W.lcmp hx hb d_Model_give_80 ?_
            refine lv_if_ge (tgt := 102) hx hb d_Model_give_81 (by decide) (fun c_11 => ?_) (fun c_11 => ?_)
            · have hF := hF.trans (if_pos c_11)
              refine lv_aload_n hx hb d_Model_give_102 rfl (lv_at hl 4 rfl) ?_
              refine va_get (D := (dC, dI)) (ci := 8) (v := .ref mU) (C := "PermitRulesModel") (T := T_Model) (N := 40) hx hb htb in_Model hown hK hP 0 rfl rfl 27 (by decide) (htb _ mb_680) (fun _ h9 => h9) rfl d_Model_give_103 ?_
              refine lv_aload_n hx hb d_Model_give_106 rfl (lv_at hl 4 rfl) ?_
              refine va_get (D := (dC, dI)) (ci := 8) (v := .int pi) (C := "PermitRulesModel") (T := T_Model) (N := 40) hx hb htb in_Model hown hK hP 0 rfl rfl 29 (by decide) (htb _ mb_682) (fun _ h9 => h9) rfl d_Model_give_107 ?_
              refine lv_lload hx hb d_Model_give_110 (lv_at hl 1 rfl) ?_
              refine va_last hx hb hK hP hD hS 1 2 rfl rfl (ib_in (Eq.refl pi.toInt) (by omega) (by omega)) d_Model_give_112 (fun H locs hP hD hS => ?_)
              have hP : va_P (dC, dI) vwCl [(oM, .inr (8, [.int th, .ref mT, .int ml, .int ma, .int mk, .int mp, .long mv, .int mw, .ref mN, .ref mD, .ref mF, .ref mS, .ref mL, .ref mR, .ref mE, .ref mK, .ref mV, .int dr, .int dc, .int ds, .int ru, .int cl, .ref mO, .int os, .int fc, .ref mA, .ref mB, .ref mU, .ref mW, .int pi, .int wh, .long ms, .int aq, .int da, .ref mX, .ref mY, .long lu, .long ld, .long qu, .long qd])), (mU, .inl (cJ, 130, .inr (.inl (vp_updL up pi.toNatClampNeg (va / (-gx)))))), (mW, .inl (cJ, 130, .inr (.inl dn)))] H := hP
              have hD : va_D A [(oM, .inr (8, [.int th, .ref mT, .int ml, .int ma, .int mk, .int mp, .long mv, .int mw, .ref mN, .ref mD, .ref mF, .ref mS, .ref mL, .ref mR, .ref mE, .ref mK, .ref mV, .int dr, .int dc, .int ds, .int ru, .int cl, .ref mO, .int os, .int fc, .ref mA, .ref mB, .ref mU, .ref mW, .int pi, .int wh, .long ms, .int aq, .int da, .ref mX, .ref mY, .long lu, .long ld, .long qu, .long qd])), (mU, .inl (cJ, 130, .inr (.inl (vp_updL up pi.toNatClampNeg (va / (-gx)))))), (mW, .inl (cJ, 130, .inr (.inl dn)))] := hD
              refine lv_aload_n hx hb d_Model_give_113 rfl (lv_at hl 4 rfl) ?_
              refine va_get (D := (dC, dI)) (ci := 8) (v := .ref mW) (C := "PermitRulesModel") (T := T_Model) (N := 40) hx hb htb in_Model hown hK hP 0 rfl rfl 28 (by decide) (htb _ mb_681) (fun _ h9 => h9) rfl d_Model_give_114 ?_
              refine lv_aload_n hx hb d_Model_give_117 rfl (lv_at hl 4 rfl) ?_
              refine va_get (D := (dC, dI)) (ci := 8) (v := .int pi) (C := "PermitRulesModel") (T := T_Model) (N := 40) hx hb htb in_Model hown hK hP 0 rfl rfl 29 (by decide) (htb _ mb_682) (fun _ h9 => h9) rfl d_Model_give_118 ?_
              refine lv_lload hx hb d_Model_give_121 (lv_at hl 0 rfl) ?_
              refine va_last hx hb hK hP hD hS 2 2 rfl rfl (ib_in (Eq.refl pi.toInt) (by omega) (by omega)) d_Model_give_123 (fun H locs hP hD hS => ?_)
              have hP : va_P (dC, dI) vwCl [(oM, .inr (8, [.int th, .ref mT, .int ml, .int ma, .int mk, .int mp, .long mv, .int mw, .ref mN, .ref mD, .ref mF, .ref mS, .ref mL, .ref mR, .ref mE, .ref mK, .ref mV, .int dr, .int dc, .int ds, .int ru, .int cl, .ref mO, .int os, .int fc, .ref mA, .ref mB, .ref mU, .ref mW, .int pi, .int wh, .long ms, .int aq, .int da, .ref mX, .ref mY, .long lu, .long ld, .long qu, .long qd])), (mU, .inl (cJ, 130, .inr (.inl (vp_updL up pi.toNatClampNeg (va / (-gx)))))), (mW, .inl (cJ, 130, .inr (.inl (vp_updL dn pi.toNatClampNeg (vb / (-gx))))))] H := hP
              have hD : va_D A [(oM, .inr (8, [.int th, .ref mT, .int ml, .int ma, .int mk, .int mp, .long mv, .int mw, .ref mN, .ref mD, .ref mF, .ref mS, .ref mL, .ref mR, .ref mE, .ref mK, .ref mV, .int dr, .int dc, .int ds, .int ru, .int cl, .ref mO, .int os, .int fc, .ref mA, .ref mB, .ref mU, .ref mW, .int pi, .int wh, .long ms, .int aq, .int da, .ref mX, .ref mY, .long lu, .long ld, .long qu, .long qd])), (mU, .inl (cJ, 130, .inr (.inl (vp_updL up pi.toNatClampNeg (va / (-gx)))))), (mW, .inl (cJ, 130, .inr (.inl (vp_updL dn pi.toNatClampNeg (vb / (-gx))))))] := hD
              refine lv_aload_n hx hb d_Model_give_124 rfl (lv_at hl 4 rfl) ?_
              refine lv_dup hx hb d_Model_give_125 rfl ?_
              refine va_get (D := (dC, dI)) (ci := 8) (v := .int pi) (C := "PermitRulesModel") (T := T_Model) (N := 40) hx hb htb in_Model hown hK hP 0 rfl rfl 29 (by decide) (htb _ mb_682) (fun _ h9 => h9) rfl d_Model_give_126 ?_
              refine lv_iconst (v := 1) hx hb d_Model_give_129 (by decide) ?_
              refine lv_iadd hx hb d_Model_give_130 ?_
              refine va_put (D := (dC, dI)) (ci := 8) (v := .int (pi + 1)) (ty := .int) (C := "PermitRulesModel") (T := T_Model) (N := 40) hx hb htb in_Model ty_Model to_Model nm_Model hown hK hP hD hS 0 rfl rfl 29 (by decide) (htb _ mb_682) (fun _ h9 => h9) rfl (by decide +kernel) rfl rfl (Nat.le_of_ble_eq_true rfl) d_Model_give_131 (fun H locs hP hD hS => ?_)
              have hP : va_P (dC, dI) vwCl [(oM, .inr (8, [.int th, .ref mT, .int ml, .int ma, .int mk, .int mp, .long mv, .int mw, .ref mN, .ref mD, .ref mF, .ref mS, .ref mL, .ref mR, .ref mE, .ref mK, .ref mV, .int dr, .int dc, .int ds, .int ru, .int cl, .ref mO, .int os, .int fc, .ref mA, .ref mB, .ref mU, .ref mW, .int (pi + 1), .int wh, .long ms, .int aq, .int da, .ref mX, .ref mY, .long lu, .long ld, .long qu, .long qd])), (mU, .inl (cJ, 130, .inr (.inl (vp_updL up pi.toNatClampNeg (va / (-gx)))))), (mW, .inl (cJ, 130, .inr (.inl (vp_updL dn pi.toNatClampNeg (vb / (-gx))))))] H := hP
              have hD : va_D A [(oM, .inr (8, [.int th, .ref mT, .int ml, .int ma, .int mk, .int mp, .long mv, .int mw, .ref mN, .ref mD, .ref mF, .ref mS, .ref mL, .ref mR, .ref mE, .ref mK, .ref mV, .int dr, .int dc, .int ds, .int ru, .int cl, .ref mO, .int os, .int fc, .ref mA, .ref mB, .ref mU, .ref mW, .int (pi + 1), .int wh, .long ms, .int aq, .int da, .ref mX, .ref mY, .long lu, .long ld, .long qu, .long qd])), (mU, .inl (cJ, 130, .inr (.inl (vp_updL up pi.toNatClampNeg (va / (-gx)))))), (mW, .inl (cJ, 130, .inr (.inl (vp_updL dn pi.toNatClampNeg (vb / (-gx))))))] := hD
              have hP9 := hP.sub (ws' := [(oM, .inr (8, [.int th, .ref mT, .int ml, .int ma, .int mk, .int mp, .long mv, .int mw, .ref mN, .ref mD, .ref mF, .ref mS, .ref mL, .ref mR, .ref mE, .ref mK, .ref mV, .int dr, .int dc, .int ds, .int ru, .int cl, .ref mO, .int os, .int fc, .ref mA, .ref mB, .ref mU, .ref mW, .int (pi + 1), .int wh, .long ms, .int aq, .int da, .ref mX, .ref mY, .long lu, .long ld, .long qu, .long qd])), (mU, .inl (cJ, 130, .inr (.inl (vp_updL up pi.toNatClampNeg (va / (-gx)))))), (mW, .inl (cJ, 130, .inr (.inl (vp_updL dn pi.toNatClampNeg (vb / (-gx))))))]) [0, 1, 2] rfl
              have hD9 := hD.sub (ws' := [(oM, .inr (8, [.int th, .ref mT, .int ml, .int ma, .int mk, .int mp, .long mv, .int mw, .ref mN, .ref mD, .ref mF, .ref mS, .ref mL, .ref mR, .ref mE, .ref mK, .ref mV, .int dr, .int dc, .int ds, .int ru, .int cl, .ref mO, .int os, .int fc, .ref mA, .ref mB, .ref mU, .ref mW, .int (pi + 1), .int wh, .long ms, .int aq, .int da, .ref mX, .ref mY, .long lu, .long ld, .long qu, .long qd])), (mU, .inl (cJ, 130, .inr (.inl (vp_updL up pi.toNatClampNeg (va / (-gx)))))), (mW, .inl (cJ, 130, .inr (.inl (vp_updL dn pi.toNatClampNeg (vb / (-gx))))))]) [0, 1, 2] (by decide) rfl
              exact W.vret hx hb hr (fun t ht hW => ⟨⟨(pi + 1, wh, vp_updL up pi.toNatClampNeg (va / (-gx)), vp_updL dn pi.toNatClampNeg (vb / (-gx))), rfl, by rw [hF], by rw [ht]; exact hP9, hD9⟩, hS.F ht⟩) hS.2.2 d_Model_give_134
            · have hF := hF.trans (if_neg c_11)
              refine lv_aload_n hx hb d_Model_give_84 rfl (lv_at hl 4 rfl) ?_
              refine lv_lconst (v := 0) hx hb d_Model_give_85 (by decide) ?_
              refine lv_lload hx hb d_Model_give_86 (lv_at hl 1 rfl) ?_
              have hPc := hP.sub (ws' := [(oM, .inr (8, [.int th, .ref mT, .int ml, .int ma, .int mk, .int mp, .long mv, .int mw, .ref mN, .ref mD, .ref mF, .ref mS, .ref mL, .ref mR, .ref mE, .ref mK, .ref mV, .int dr, .int dc, .int ds, .int ru, .int cl, .ref mO, .int os, .int fc, .ref mA, .ref mB, .ref mU, .ref mW, .int pi, .int wh, .long ms, .int aq, .int da, .ref mX, .ref mY, .long lu, .long ld, .long qu, .long qd]))]) [0] rfl
              have hDc := hD.sub (ws' := [(oM, .inr (8, [.int th, .ref mT, .int ml, .int ma, .int mk, .int mp, .long mv, .int mw, .ref mN, .ref mD, .ref mF, .ref mS, .ref mL, .ref mR, .ref mE, .ref mK, .ref mV, .int dr, .int dc, .int ds, .int ru, .int cl, .ref mO, .int os, .int fc, .ref mA, .ref mB, .ref mU, .ref mW, .int pi, .int wh, .long ms, .int aq, .int da, .ref mX, .ref mY, .long lu, .long ld, .long qu, .long qd]))]) [0] (by decide) rfl
              have hFc := va_free (wc := [(oM, .inr (8, [.int th, .ref mT, .int ml, .int ma, .int mk, .int mp, .long mv, .int mw, .ref mN, .ref mD, .ref mF, .ref mS, .ref mL, .ref mR, .ref mE, .ref mK, .ref mV, .int dr, .int dc, .int ds, .int ru, .int cl, .ref mO, .int os, .int fc, .ref mA, .ref mB, .ref mU, .ref mW, .int pi, .int wh, .long ms, .int aq, .int da, .ref mX, .ref mY, .long lu, .long ld, .long qu, .long qd]))]) hD hS hA [0] rfl
              refine va_calll (va_runV (As := [.long 0, .long (va / (-gx))]) (rest := []) ⟨hx, hb, hml, hown, htb⟩ (c_Model_less l dC dI cB cI cJ oM mT mN mD mF mS mL mR mE mK mV mO mA mB mU mW mX mY _ 0 (va / (-gx)) th ml ma mk mp mv mw dr dc ds ru cl os fc pi wh ms aq da lu ld qu qd ) ⟨callB_of 2 htb (gb_all mb_890) rfl rfl rfl (htb _ mb_9) (htb _ mb_887) (by decide +kernel) ⟨Nat.le_of_ble_eq_true rfl, Nat.le_of_ble_eq_true rfl⟩, htb _ mb_889, htb _ mp_31⟩ ⟨kb_blind, va_recv hK hPc (ci := 8) (q0 := 0) rfl rfl, kb_at hPc hDc hKx⟩ rfl rfl hl.1 rfl (lv_room (Nat.le_of_ble_eq_true rfl)) d_Model_give_88 ⟨Nat.le_of_ble_eq_true rfl, Nat.le_of_ble_eq_true rfl⟩) hS (fun q _ h => hFc q h) hFc (fun r u t H1 locs ht hvm hw hB hz1 hk1 hS => ?_)
              obtain ⟨z_12, hzz_12⟩ : ∃ z, z = f_Model_less 0 (va / (-gx)) wh := ⟨_, rfl⟩
              rw [← hzz_12] at hw
              obtain ⟨rfl, rfl⟩ := hw
              have hF := hF.trans (lt_e hzz_12)
              obtain ⟨hP1, hD1⟩ := hB
              rw [ht] at hP1
              obtain ⟨hP, hD⟩ := va_join (wr := [(mU, .inl (cJ, 130, .inr (.inl up))), (mW, .inl (cJ, 130, .inr (.inl dn)))]) (w1 := [(oM, .inr (8, [.int th, .ref mT, .int ml, .int ma, .int mk, .int mp, .long mv, .int mw, .ref mN, .ref mD, .ref mF, .ref mS, .ref mL, .ref mR, .ref mE, .ref mK, .ref mV, .int dr, .int dc, .int ds, .int ru, .int cl, .ref mO, .int os, .int fc, .ref mA, .ref mB, .ref mU, .ref mW, .int pi, .int z_12.2, .long ms, .int aq, .int da, .ref mX, .ref mY, .long lu, .long ld, .long qu, .long qd]))]) hP hD [0] [1, 2] rfl rfl (by decide) (by decide) hk1 hFc hP1 hD1
              generalize H1 = H at hP hS ⊢
              have hP : va_P (dC, dI) vwCl [(mU, .inl (cJ, 130, .inr (.inl up))), (mW, .inl (cJ, 130, .inr (.inl dn))), (oM, .inr (8, [.int th, .ref mT, .int ml, .int ma, .int mk, .int mp, .long mv, .int mw, .ref mN, .ref mD, .ref mF, .ref mS, .ref mL, .ref mR, .ref mE, .ref mK, .ref mV, .int dr, .int dc, .int ds, .int ru, .int cl, .ref mO, .int os, .int fc, .ref mA, .ref mB, .ref mU, .ref mW, .int pi, .int z_12.2, .long ms, .int aq, .int da, .ref mX, .ref mY, .long lu, .long ld, .long qu, .long qd]))] H := hP
              have hD : va_D A [(mU, .inl (cJ, 130, .inr (.inl up))), (mW, .inl (cJ, 130, .inr (.inl dn))), (oM, .inr (8, [.int th, .ref mT, .int ml, .int ma, .int mk, .int mp, .long mv, .int mw, .ref mN, .ref mD, .ref mF, .ref mS, .ref mL, .ref mR, .ref mE, .ref mK, .ref mV, .int dr, .int dc, .int ds, .int ru, .int cl, .ref mO, .int os, .int fc, .ref mA, .ref mB, .ref mU, .ref mW, .int pi, .int z_12.2, .long ms, .int aq, .int da, .ref mX, .ref mY, .long lu, .long ld, .long qu, .long qd]))] := hD
              refine lv_lstore (lv' := [(9, .long z_12.1), (11, .long (vb / (-gx))), (5, .long (-gx)), (7, .long gy), (0, .ref oM), (1, .long va), (3, .long vb)]) hx hb d_Model_give_91 hl (by decide) rfl (fun ls hl => ?_)
              refine lv_aload_n hx hb d_Model_give_93 rfl (lv_at hl 4 rfl) ?_
              refine lv_lconst (v := 0) hx hb d_Model_give_94 (by decide) ?_
              refine lv_lload hx hb d_Model_give_95 (lv_at hl 1 rfl) ?_
              have hPc := hP.sub (ws' := [(oM, .inr (8, [.int th, .ref mT, .int ml, .int ma, .int mk, .int mp, .long mv, .int mw, .ref mN, .ref mD, .ref mF, .ref mS, .ref mL, .ref mR, .ref mE, .ref mK, .ref mV, .int dr, .int dc, .int ds, .int ru, .int cl, .ref mO, .int os, .int fc, .ref mA, .ref mB, .ref mU, .ref mW, .int pi, .int z_12.2, .long ms, .int aq, .int da, .ref mX, .ref mY, .long lu, .long ld, .long qu, .long qd]))]) [2] rfl
              have hDc := hD.sub (ws' := [(oM, .inr (8, [.int th, .ref mT, .int ml, .int ma, .int mk, .int mp, .long mv, .int mw, .ref mN, .ref mD, .ref mF, .ref mS, .ref mL, .ref mR, .ref mE, .ref mK, .ref mV, .int dr, .int dc, .int ds, .int ru, .int cl, .ref mO, .int os, .int fc, .ref mA, .ref mB, .ref mU, .ref mW, .int pi, .int z_12.2, .long ms, .int aq, .int da, .ref mX, .ref mY, .long lu, .long ld, .long qu, .long qd]))]) [2] (by decide) rfl
              have hFc := va_free (wc := [(oM, .inr (8, [.int th, .ref mT, .int ml, .int ma, .int mk, .int mp, .long mv, .int mw, .ref mN, .ref mD, .ref mF, .ref mS, .ref mL, .ref mR, .ref mE, .ref mK, .ref mV, .int dr, .int dc, .int ds, .int ru, .int cl, .ref mO, .int os, .int fc, .ref mA, .ref mB, .ref mU, .ref mW, .int pi, .int z_12.2, .long ms, .int aq, .int da, .ref mX, .ref mY, .long lu, .long ld, .long qu, .long qd]))]) hD hS hA [2] rfl
              refine va_calll (va_runV (As := [.long 0, .long (vb / (-gx))]) (rest := []) ⟨hx, hb, hml, hown, htb⟩ (c_Model_less l dC dI cB cI cJ oM mT mN mD mF mS mL mR mE mK mV mO mA mB mU mW mX mY _ 0 (vb / (-gx)) th ml ma mk mp mv mw dr dc ds ru cl os fc pi z_12.2 ms aq da lu ld qu qd ) ⟨callB_of 2 htb (gb_all mb_890) rfl rfl rfl (htb _ mb_9) (htb _ mb_887) (by decide +kernel) ⟨Nat.le_of_ble_eq_true rfl, Nat.le_of_ble_eq_true rfl⟩, htb _ mb_889, htb _ mp_31⟩ ⟨kb_blind, va_recv hK hPc (ci := 8) (q0 := 0) rfl rfl, kb_at hPc hDc hKx⟩ rfl rfl hl.1 rfl (lv_room (Nat.le_of_ble_eq_true rfl)) d_Model_give_97 ⟨Nat.le_of_ble_eq_true rfl, Nat.le_of_ble_eq_true rfl⟩) hS (fun q _ h => hFc q h) hFc (fun r u t H1 locs ht hvm hw hB hz1 hk1 hS => ?_)
              obtain ⟨z_13, hzz_13⟩ : ∃ z, z = f_Model_less 0 (vb / (-gx)) z_12.2 := ⟨_, rfl⟩
              rw [← hzz_13] at hw
              obtain ⟨rfl, rfl⟩ := hw
              have hF := hF.trans (lt_e hzz_13)
              obtain ⟨hP1, hD1⟩ := hB
              rw [ht] at hP1
              obtain ⟨hP, hD⟩ := va_join (wr := [(mU, .inl (cJ, 130, .inr (.inl up))), (mW, .inl (cJ, 130, .inr (.inl dn)))]) (w1 := [(oM, .inr (8, [.int th, .ref mT, .int ml, .int ma, .int mk, .int mp, .long mv, .int mw, .ref mN, .ref mD, .ref mF, .ref mS, .ref mL, .ref mR, .ref mE, .ref mK, .ref mV, .int dr, .int dc, .int ds, .int ru, .int cl, .ref mO, .int os, .int fc, .ref mA, .ref mB, .ref mU, .ref mW, .int pi, .int z_13.2, .long ms, .int aq, .int da, .ref mX, .ref mY, .long lu, .long ld, .long qu, .long qd]))]) hP hD [2] [0, 1] rfl rfl (by decide) (by decide) hk1 hFc hP1 hD1
              generalize H1 = H at hP hS ⊢
              have hP : va_P (dC, dI) vwCl [(mU, .inl (cJ, 130, .inr (.inl up))), (mW, .inl (cJ, 130, .inr (.inl dn))), (oM, .inr (8, [.int th, .ref mT, .int ml, .int ma, .int mk, .int mp, .long mv, .int mw, .ref mN, .ref mD, .ref mF, .ref mS, .ref mL, .ref mR, .ref mE, .ref mK, .ref mV, .int dr, .int dc, .int ds, .int ru, .int cl, .ref mO, .int os, .int fc, .ref mA, .ref mB, .ref mU, .ref mW, .int pi, .int z_13.2, .long ms, .int aq, .int da, .ref mX, .ref mY, .long lu, .long ld, .long qu, .long qd]))] H := hP
              have hD : va_D A [(mU, .inl (cJ, 130, .inr (.inl up))), (mW, .inl (cJ, 130, .inr (.inl dn))), (oM, .inr (8, [.int th, .ref mT, .int ml, .int ma, .int mk, .int mp, .long mv, .int mw, .ref mN, .ref mD, .ref mF, .ref mS, .ref mL, .ref mR, .ref mE, .ref mK, .ref mV, .int dr, .int dc, .int ds, .int ru, .int cl, .ref mO, .int os, .int fc, .ref mA, .ref mB, .ref mU, .ref mW, .int pi, .int z_13.2, .long ms, .int aq, .int da, .ref mX, .ref mY, .long lu, .long ld, .long qu, .long qd]))] := hD
              refine lv_lstore (lv' := [(11, .long z_13.1), (9, .long z_12.1), (5, .long (-gx)), (7, .long gy), (0, .ref oM), (1, .long va), (3, .long vb)]) hx hb d_Model_give_100 hl (by decide) rfl (fun ls hl => ?_)
              refine lv_aload_n hx hb d_Model_give_102 rfl (lv_at hl 4 rfl) ?_
              refine va_get (D := (dC, dI)) (ci := 8) (v := .ref mU) (C := "PermitRulesModel") (T := T_Model) (N := 40) hx hb htb in_Model hown hK hP 2 rfl rfl 27 (by decide) (htb _ mb_680) (fun _ h9 => h9) rfl d_Model_give_103 ?_
              refine lv_aload_n hx hb d_Model_give_106 rfl (lv_at hl 4 rfl) ?_
              refine va_get (D := (dC, dI)) (ci := 8) (v := .int pi) (C := "PermitRulesModel") (T := T_Model) (N := 40) hx hb htb in_Model hown hK hP 2 rfl rfl 29 (by decide) (htb _ mb_682) (fun _ h9 => h9) rfl d_Model_give_107 ?_
              refine lv_lload hx hb d_Model_give_110 (lv_at hl 1 rfl) ?_
              refine va_last hx hb hK hP hD hS 0 2 rfl rfl (ib_in (Eq.refl pi.toInt) (by omega) (by omega)) d_Model_give_112 (fun H locs hP hD hS => ?_)
              have hP : va_P (dC, dI) vwCl [(mU, .inl (cJ, 130, .inr (.inl (vp_updL up pi.toNatClampNeg z_12.1)))), (mW, .inl (cJ, 130, .inr (.inl dn))), (oM, .inr (8, [.int th, .ref mT, .int ml, .int ma, .int mk, .int mp, .long mv, .int mw, .ref mN, .ref mD, .ref mF, .ref mS, .ref mL, .ref mR, .ref mE, .ref mK, .ref mV, .int dr, .int dc, .int ds, .int ru, .int cl, .ref mO, .int os, .int fc, .ref mA, .ref mB, .ref mU, .ref mW, .int pi, .int z_13.2, .long ms, .int aq, .int da, .ref mX, .ref mY, .long lu, .long ld, .long qu, .long qd]))] H := hP
              have hD : va_D A [(mU, .inl (cJ, 130, .inr (.inl (vp_updL up pi.toNatClampNeg z_12.1)))), (mW, .inl (cJ, 130, .inr (.inl dn))), (oM, .inr (8, [.int th, .ref mT, .int ml, .int ma, .int mk, .int mp, .long mv, .int mw, .ref mN, .ref mD, .ref mF, .ref mS, .ref mL, .ref mR, .ref mE, .ref mK, .ref mV, .int dr, .int dc, .int ds, .int ru, .int cl, .ref mO, .int os, .int fc, .ref mA, .ref mB, .ref mU, .ref mW, .int pi, .int z_13.2, .long ms, .int aq, .int da, .ref mX, .ref mY, .long lu, .long ld, .long qu, .long qd]))] := hD
              refine lv_aload_n hx hb d_Model_give_113 rfl (lv_at hl 4 rfl) ?_
              refine va_get (D := (dC, dI)) (ci := 8) (v := .ref mW) (C := "PermitRulesModel") (T := T_Model) (N := 40) hx hb htb in_Model hown hK hP 2 rfl rfl 28 (by decide) (htb _ mb_681) (fun _ h9 => h9) rfl d_Model_give_114 ?_
              refine lv_aload_n hx hb d_Model_give_117 rfl (lv_at hl 4 rfl) ?_
              refine va_get (D := (dC, dI)) (ci := 8) (v := .int pi) (C := "PermitRulesModel") (T := T_Model) (N := 40) hx hb htb in_Model hown hK hP 2 rfl rfl 29 (by decide) (htb _ mb_682) (fun _ h9 => h9) rfl d_Model_give_118 ?_
              refine lv_lload hx hb d_Model_give_121 (lv_at hl 0 rfl) ?_
              refine va_last hx hb hK hP hD hS 1 2 rfl rfl (ib_in (Eq.refl pi.toInt) (by omega) (by omega)) d_Model_give_123 (fun H locs hP hD hS => ?_)
              have hP : va_P (dC, dI) vwCl [(mU, .inl (cJ, 130, .inr (.inl (vp_updL up pi.toNatClampNeg z_12.1)))), (mW, .inl (cJ, 130, .inr (.inl (vp_updL dn pi.toNatClampNeg z_13.1)))), (oM, .inr (8, [.int th, .ref mT, .int ml, .int ma, .int mk, .int mp, .long mv, .int mw, .ref mN, .ref mD, .ref mF, .ref mS, .ref mL, .ref mR, .ref mE, .ref mK, .ref mV, .int dr, .int dc, .int ds, .int ru, .int cl, .ref mO, .int os, .int fc, .ref mA, .ref mB, .ref mU, .ref mW, .int pi, .int z_13.2, .long ms, .int aq, .int da, .ref mX, .ref mY, .long lu, .long ld, .long qu, .long qd]))] H := hP
              have hD : va_D A [(mU, .inl (cJ, 130, .inr (.inl (vp_updL up pi.toNatClampNeg z_12.1)))), (mW, .inl (cJ, 130, .inr (.inl (vp_updL dn pi.toNatClampNeg z_13.1)))), (oM, .inr (8, [.int th, .ref mT, .int ml, .int ma, .int mk, .int mp, .long mv, .int mw, .ref mN, .ref mD, .ref mF, .ref mS, .ref mL, .ref mR, .ref mE, .ref mK, .ref mV, .int dr, .int dc, .int ds, .int ru, .int cl, .ref mO, .int os, .int fc, .ref mA, .ref mB, .ref mU, .ref mW, .int pi, .int z_13.2, .long ms, .int aq, .int da, .ref mX, .ref mY, .long lu, .long ld, .long qu, .long qd]))] := hD
              refine lv_aload_n hx hb d_Model_give_124 rfl (lv_at hl 4 rfl) ?_
              refine lv_dup hx hb d_Model_give_125 rfl ?_
              refine va_get (D := (dC, dI)) (ci := 8) (v := .int pi) (C := "PermitRulesModel") (T := T_Model) (N := 40) hx hb htb in_Model hown hK hP 2 rfl rfl 29 (by decide) (htb _ mb_682) (fun _ h9 => h9) rfl d_Model_give_126 ?_
              refine lv_iconst (v := 1) hx hb d_Model_give_129 (by decide) ?_
              refine lv_iadd hx hb d_Model_give_130 ?_
              refine va_put (D := (dC, dI)) (ci := 8) (v := .int (pi + 1)) (ty := .int) (C := "PermitRulesModel") (T := T_Model) (N := 40) hx hb htb in_Model ty_Model to_Model nm_Model hown hK hP hD hS 2 rfl rfl 29 (by decide) (htb _ mb_682) (fun _ h9 => h9) rfl (by decide +kernel) rfl rfl (Nat.le_of_ble_eq_true rfl) d_Model_give_131 (fun H locs hP hD hS => ?_)
              have hP : va_P (dC, dI) vwCl [(mU, .inl (cJ, 130, .inr (.inl (vp_updL up pi.toNatClampNeg z_12.1)))), (mW, .inl (cJ, 130, .inr (.inl (vp_updL dn pi.toNatClampNeg z_13.1)))), (oM, .inr (8, [.int th, .ref mT, .int ml, .int ma, .int mk, .int mp, .long mv, .int mw, .ref mN, .ref mD, .ref mF, .ref mS, .ref mL, .ref mR, .ref mE, .ref mK, .ref mV, .int dr, .int dc, .int ds, .int ru, .int cl, .ref mO, .int os, .int fc, .ref mA, .ref mB, .ref mU, .ref mW, .int (pi + 1), .int z_13.2, .long ms, .int aq, .int da, .ref mX, .ref mY, .long lu, .long ld, .long qu, .long qd]))] H := hP
              have hD : va_D A [(mU, .inl (cJ, 130, .inr (.inl (vp_updL up pi.toNatClampNeg z_12.1)))), (mW, .inl (cJ, 130, .inr (.inl (vp_updL dn pi.toNatClampNeg z_13.1)))), (oM, .inr (8, [.int th, .ref mT, .int ml, .int ma, .int mk, .int mp, .long mv, .int mw, .ref mN, .ref mD, .ref mF, .ref mS, .ref mL, .ref mR, .ref mE, .ref mK, .ref mV, .int dr, .int dc, .int ds, .int ru, .int cl, .ref mO, .int os, .int fc, .ref mA, .ref mB, .ref mU, .ref mW, .int (pi + 1), .int z_13.2, .long ms, .int aq, .int da, .ref mX, .ref mY, .long lu, .long ld, .long qu, .long qd]))] := hD
              have hP9 := hP.sub (ws' := [(oM, .inr (8, [.int th, .ref mT, .int ml, .int ma, .int mk, .int mp, .long mv, .int mw, .ref mN, .ref mD, .ref mF, .ref mS, .ref mL, .ref mR, .ref mE, .ref mK, .ref mV, .int dr, .int dc, .int ds, .int ru, .int cl, .ref mO, .int os, .int fc, .ref mA, .ref mB, .ref mU, .ref mW, .int (pi + 1), .int z_13.2, .long ms, .int aq, .int da, .ref mX, .ref mY, .long lu, .long ld, .long qu, .long qd])), (mU, .inl (cJ, 130, .inr (.inl (vp_updL up pi.toNatClampNeg z_12.1)))), (mW, .inl (cJ, 130, .inr (.inl (vp_updL dn pi.toNatClampNeg z_13.1))))]) [2, 0, 1] rfl
              have hD9 := hD.sub (ws' := [(oM, .inr (8, [.int th, .ref mT, .int ml, .int ma, .int mk, .int mp, .long mv, .int mw, .ref mN, .ref mD, .ref mF, .ref mS, .ref mL, .ref mR, .ref mE, .ref mK, .ref mV, .int dr, .int dc, .int ds, .int ru, .int cl, .ref mO, .int os, .int fc, .ref mA, .ref mB, .ref mU, .ref mW, .int (pi + 1), .int z_13.2, .long ms, .int aq, .int da, .ref mX, .ref mY, .long lu, .long ld, .long qu, .long qd])), (mU, .inl (cJ, 130, .inr (.inl (vp_updL up pi.toNatClampNeg z_12.1)))), (mW, .inl (cJ, 130, .inr (.inl (vp_updL dn pi.toNatClampNeg z_13.1))))]) [2, 0, 1] (by decide) rfl
              exact W.vret hx hb hr (fun t ht hW => ⟨⟨(pi + 1, z_13.2, vp_updL up pi.toNatClampNeg z_12.1, vp_updL dn pi.toNatClampNeg z_13.1), rfl, by rw [hF], by rw [ht]; exact hP9, hD9⟩, hS.F ht⟩) hS.2.2 d_Model_give_134
      · have hF := hF.trans (if_neg c_2)
        refine lv_lload hx hb d_Model_give_21 (lv_at hl 1 rfl) ?_
        refine lv_lload hx hb d_Model_give_23 (lv_at hl 0 rfl) ?_
        refine lv_lrem hx hb d_Model_give_25 (oi_nz c_2) ?_
        refine lv_lstore (lv' := [(9, .long (gx - gx / gy * gy)), (7, .long gy), (5, .long gx), (0, .ref oM), (1, .long va), (3, .long vb)]) hx hb d_Model_give_26 hl (by decide) rfl (fun ls hl => ?_)
        refine lv_lload hx hb d_Model_give_28 (lv_at hl 1 rfl) ?_
        refine lv_lstore (lv' := [(5, .long gy), (9, .long (gx - gx / gy * gy)), (7, .long gy), (0, .ref oM), (1, .long va), (3, .long vb)]) hx hb d_Model_give_30 hl (by decide) rfl (fun ls hl => ?_)
        refine lv_lload hx hb d_Model_give_32 (lv_at hl 1 rfl) ?_
        refine lv_lstore (lv' := [(7, .long (gx - gx / gy * gy)), (5, .long gy), (9, .long (gx - gx / gy * gy)), (0, .ref oM), (1, .long va), (3, .long vb)]) hx hb d_Model_give_34 hl (by decide) rfl (fun ls hl => ?_)
        refine lv_goto (tgt := 14) hx hb d_Model_give_36 (by decide) ?_
        exact ih gy (gx - gx / gy * gy) (fun h => oi_nz c_2 h.1) (gv_s c_2 hn) hF _ _ _ (hP.sub [0, 1, 2] rfl) (hD.sub [0, 1, 2] (by decide) rfl) hS (lv_sub hl [0, 1, 3, 4, 5] rfl)
  refine lv_aload_n hx hb d_Model_give_0 rfl (lv_at hl 0 rfl) ?_
  refine va_get (D := (dC, dI)) (ci := 8) (v := .int wh) (C := "PermitRulesModel") (T := T_Model) (N := 40) hx hb htb in_Model hown hK hP 0 rfl rfl 30 (by decide) (htb _ mb_683) (fun _ h9 => h9) rfl d_Model_give_1 ?_
  refine lv_if_le (tgt := 8) hx hb d_Model_give_4 (by decide) (fun c_1 => ?_) (fun c_1 => ?_)
  · have hF := hF.trans (if_pos c_1)
    have tc_1 := ti_le (Eq.refl wh.toInt) (show (0 : Int32).toInt = 0 by decide) c_1
    refine lv_lload_n hx hb d_Model_give_8 rfl (lv_at hl 1 rfl) ?_
    refine lv_lstore (lv' := [(5, .long va), (0, .ref oM), (1, .long va), (3, .long vb)]) hx hb d_Model_give_9 hl (by decide) rfl (fun ls hl => ?_)
    refine lv_lload_n hx hb d_Model_give_11 rfl (lv_at hl 3 rfl) ?_
    refine lv_lstore (lv' := [(7, .long vb), (5, .long va), (0, .ref oM), (1, .long va), (3, .long vb)]) hx hb d_Model_give_12 hl (by decide) rfl (fun ls hl => ?_)
    exact lp14 (vb.toInt.natAbs + 1) va vb (fun h => hd c_1 h.2) (Nat.lt_succ_self _) hF _ _ _ (hP.sub [0, 1, 2] rfl) (hD.sub [0, 1, 2] (by decide) rfl) hS (lv_sub hl [0, 1, 2, 3, 4] rfl)
  · have hF := hF.trans (if_neg c_1)
    have tc_1 := ti_nle (Eq.refl wh.toInt) (show (0 : Int32).toInt = 0 by decide) c_1
    have hP9 := hP.sub (ws' := [(oM, .inr (8, [.int th, .ref mT, .int ml, .int ma, .int mk, .int mp, .long mv, .int mw, .ref mN, .ref mD, .ref mF, .ref mS, .ref mL, .ref mR, .ref mE, .ref mK, .ref mV, .int dr, .int dc, .int ds, .int ru, .int cl, .ref mO, .int os, .int fc, .ref mA, .ref mB, .ref mU, .ref mW, .int pi, .int wh, .long ms, .int aq, .int da, .ref mX, .ref mY, .long lu, .long ld, .long qu, .long qd])), (mU, .inl (cJ, 130, .inr (.inl up))), (mW, .inl (cJ, 130, .inr (.inl dn)))]) [0, 1, 2] rfl
    have hD9 := hD.sub (ws' := [(oM, .inr (8, [.int th, .ref mT, .int ml, .int ma, .int mk, .int mp, .long mv, .int mw, .ref mN, .ref mD, .ref mF, .ref mS, .ref mL, .ref mR, .ref mE, .ref mK, .ref mV, .int dr, .int dc, .int ds, .int ru, .int cl, .ref mO, .int os, .int fc, .ref mA, .ref mB, .ref mU, .ref mW, .int pi, .int wh, .long ms, .int aq, .int da, .ref mX, .ref mY, .long lu, .long ld, .long qu, .long qd])), (mU, .inl (cJ, 130, .inr (.inl up))), (mW, .inl (cJ, 130, .inr (.inl dn)))]) [0, 1, 2] (by decide) rfl
    exact W.vret hx hb hr (fun t ht hW => ⟨⟨(pi, wh, up, dn), rfl, by rw [hF], by rw [ht]; exact hP9, hD9⟩, hS.F ht⟩) hS.2.2 d_Model_give_7
def f_Model_keep (r : Int32) (lu : Int64) (ld : Int64) (qu : Int64) (qd : Int64) (re : (Nat → Int64)) : (Nat → Int64) := vp_updL (vp_updL (vp_updL (vp_updL re (6 * r).toNatClampNeg lu) ((6 * r) + 1).toNatClampNeg ld) ((6 * r) + 2).toNatClampNeg qu) ((6 * r) + 3).toNatClampNeg qd
abbrev q_Model_keep (dC : Nat → ClassId) (dI : Nat → Nat → Nat) (cB cI cJ : ClassId) (oM mT mN mD mF mS mL mR mE mK mV mO mA mB mU mW mX mY : Nat) (r : Int32) (th : Int32) (ml : Int32) (ma : Int32) (mk : Int32) (mp : Int32) (mv : Int64) (mw : Int32) (dr : Int32) (dc : Int32) (ds : Int32) (ru : Int32) (cl : Int32) (os : Int32) (fc : Int32) (pi : Int32) (wh : Int32) (ms : Int64) (aq : Int32) (da : Int32) (lu : Int64) (ld : Int64) (qu : Int64) (qd : Int64) (re : (Nat → Int64)) (A : Nat → Prop) : Array Value → State → Outcome → State → Prop := va_Qv (fun u : (Nat → Int64) => u = f_Model_keep r lu ld qu qd re) (fun u t => va_P (dC, dI) vwCl [(oM, .inr (8, [.int th, .ref mT, .int ml, .int ma, .int mk, .int mp, .long mv, .int mw, .ref mN, .ref mD, .ref mF, .ref mS, .ref mL, .ref mR, .ref mE, .ref mK, .ref mV, .int dr, .int dc, .int ds, .int ru, .int cl, .ref mO, .int os, .int fc, .ref mA, .ref mB, .ref mU, .ref mW, .int pi, .int wh, .long ms, .int aq, .int da, .ref mX, .ref mY, .long lu, .long ld, .long qu, .long qd])), (mY, .inl (cJ, 72, .inr (.inl u)))] t.heap ∧ va_D A [(oM, .inr (8, [.int th, .ref mT, .int ml, .int ma, .int mk, .int mp, .long mv, .int mw, .ref mN, .ref mD, .ref mF, .ref mS, .ref mL, .ref mR, .ref mE, .ref mK, .ref mV, .int dr, .int dc, .int ds, .int ru, .int cl, .ref mO, .int os, .int fc, .ref mA, .ref mB, .ref mU, .ref mW, .int pi, .int wh, .long ms, .int aq, .int da, .ref mX, .ref mY, .long lu, .long ld, .long qu, .long qd])), (mY, .inl (cJ, 72, .inr (.inl u)))]) A
set_option maxHeartbeats 4000000 in
set_option maxRecDepth 100000 in
theorem c_Model_keep (l : Launch) (dC : Nat → ClassId) (dI : Nat → Nat → Nat) (cB cI cJ : ClassId) (oM mT mN mD mF mS mL mR mE mK mV mO mA mB mU mW mX mY : Nat) (sz : Nat) (r : Int32) (th : Int32) (ml : Int32) (ma : Int32) (mk : Int32) (mp : Int32) (mv : Int64) (mw : Int32) (dr : Int32) (dc : Int32) (ds : Int32) (ru : Int32) (cl : Int32) (os : Int32) (fc : Int32) (pi : Int32) (wh : Int32) (ms : Int64) (aq : Int32) (da : Int32) (lu : Int64) (ld : Int64) (qu : Int64) (qd : Int64) (re : (Nat → Int64)) (h0 : 0 ≤ r.toInt) (h1 : r.toInt < 12) : Met l y_Model_keep (cw_Model_keep :: bgw) { frames := 0, cells := 0, slots := 0, locals := 0 } (va_Pc [.ref oM, .int r] (kb_B dC dI cB cI cJ [(oM, .inr (8, [.int th, .ref mT, .int ml, .int ma, .int mk, .int mp, .long mv, .int mw, .ref mN, .ref mD, .ref mF, .ref mS, .ref mL, .ref mR, .ref mE, .ref mK, .ref mV, .int dr, .int dc, .int ds, .int ru, .int cl, .ref mO, .int os, .int fc, .ref mA, .ref mB, .ref mU, .ref mW, .int pi, .int wh, .long ms, .int aq, .int da, .ref mX, .ref mY, .long lu, .long ld, .long qu, .long qd])), (mY, .inl (cJ, 72, .inr (.inl re)))] sz)) (q_Model_keep dC dI cB cI cJ oM mT mN mD mF mS mL mR mE mK mV mO mA mB mU mW mX mY r th ml ma mk mp mv mw dr dc ds ru cl os fc pi wh ms aq da lu ld qu qd re (va_A [(oM, .inr (8, [.int th, .ref mT, .int ml, .int ma, .int mk, .int mp, .long mv, .int mw, .ref mN, .ref mD, .ref mF, .ref mS, .ref mL, .ref mR, .ref mE, .ref mK, .ref mV, .int dr, .int dc, .int ds, .int ru, .int cl, .ref mO, .int os, .int fc, .ref mA, .ref mB, .ref mU, .ref mW, .int pi, .int wh, .long ms, .int aq, .int da, .ref mX, .ref mY, .long lu, .long ld, .long qu, .long qd])), (mY, .inl (cJ, 72, .inr (.inl re)))] sz)) 0 0 (va_A [(oM, .inr (8, [.int th, .ref mT, .int ml, .int ma, .int mk, .int mp, .long mv, .int mw, .ref mN, .ref mD, .ref mF, .ref mS, .ref mL, .ref mR, .ref mE, .ref mK, .ref mV, .int dr, .int dc, .int ds, .int ru, .int cl, .ref mO, .int os, .int fc, .ref mA, .ref mB, .ref mU, .ref mW, .int pi, .int wh, .long ms, .int aq, .int da, .ref mX, .ref mY, .long lu, .long ld, .long qu, .long qd])), (mY, .inl (cJ, 72, .inr (.inl re)))] sz) := by
  refine Met.ofW (cc := prog_10_method_32_code) (maxL := 2) (ret := none) (by decide) rfl ?_
  intro p e s m args below meth c s₁ B hml hv
  obtain ⟨rfl, hsz, hP, hKx, hD0⟩ := hv
  have hx := B.exec
  have hb := B.bytes
  have hr := B.returns
  have hts := atoms_spec (ws := (cw_Model_keep :: bgw)) B.pre
  have hown : s.vm.findClass "PermitRulesModel" = some m.cls := findClass_of_methodNamed B.named
  have hlocks := B.notSynchronized
  have htb := fun (w : Cond) (h : w ∈ bgw) => hts w (List.mem_cons_of_mem _ h)
  have hK := hKx.1
  subst hsz
  have hD := hD0.self (sz := s.heap.size)
  generalize hAe : va_A [(oM, .inr (8, [.int th, .ref mT, .int ml, .int ma, .int mk, .int mp, .long mv, .int mw, .ref mN, .ref mD, .ref mF, .ref mS, .ref mL, .ref mR, .ref mE, .ref mK, .ref mV, .int dr, .int dc, .int ds, .int ru, .int cl, .ref mO, .int os, .int fc, .ref mA, .ref mB, .ref mU, .ref mW, .int pi, .int wh, .long ms, .int aq, .int da, .ref mX, .ref mY, .long lu, .long ld, .long qu, .long qd])), (mY, .inl (cJ, 72, .inr (.inl re)))] s.heap.size = A at hD ⊢
  have hA : ∀ q : Nat, s.heap.size ≤ q → A q := fun q h => by rw [← hAe]; exact Or.inr h
  have hS : va_S A s.heap s.heap [] := va_S.rf
  have hl := lv_entry ([.ref oM, .int r]) (n := 2) (Nat.le_of_ble_eq_true rfl)
  rw [lg_entry_eq]
  generalize (lg_sl ([.ref oM, .int r]) ++ List.replicate (2 - (lg_sl ([.ref oM, .int r])).length) Slot.unset).toArray = ls at hl ⊢
  have hl : lv_has ls 2 [(0, .ref oM), (1, .int r)] := hl
  have hP : va_P (dC, dI) vwCl [(oM, .inr (8, [.int th, .ref mT, .int ml, .int ma, .int mk, .int mp, .long mv, .int mw, .ref mN, .ref mD, .ref mF, .ref mS, .ref mL, .ref mR, .ref mE, .ref mK, .ref mV, .int dr, .int dc, .int ds, .int ru, .int cl, .ref mO, .int os, .int fc, .ref mA, .ref mB, .ref mU, .ref mW, .int pi, .int wh, .long ms, .int aq, .int da, .ref mX, .ref mY, .long lu, .long ld, .long qu, .long qd])), (mY, .inl (cJ, 72, .inr (.inl re)))] s.heap := hP
  have hF : f_Model_keep r lu ld qu qd re = vp_updL (vp_updL (vp_updL (vp_updL re (6 * r).toNatClampNeg lu) ((6 * r) + 1).toNatClampNeg ld) ((6 * r) + 2).toNatClampNeg qu) ((6 * r) + 3).toNatClampNeg qd := rfl
  refine lv_aload_n hx hb d_Model_keep_0 rfl (lv_at hl 0 rfl) ?_
  refine va_get (D := (dC, dI)) (ci := 8) (v := .ref mY) (C := "PermitRulesModel") (T := T_Model) (N := 40) hx hb htb in_Model hown hK hP 0 rfl rfl 35 (by decide) (htb _ mb_688) (fun _ h9 => h9) rfl d_Model_keep_1 ?_
  refine lv_bipush (v := 6) hx hb d_Model_keep_4 (by decide) ?_
  refine lv_iload_n hx hb d_Model_keep_6 rfl (lv_at hl 1 rfl) ?_
  refine lv_imul hx hb d_Model_keep_7 ?_
  refine lv_aload_n hx hb d_Model_keep_8 rfl (lv_at hl 0 rfl) ?_
  refine va_get (D := (dC, dI)) (ci := 8) (v := .long lu) (C := "PermitRulesModel") (T := T_Model) (N := 40) hx hb htb in_Model hown hK hP 0 rfl rfl 36 (by decide) (htb _ mb_689) (fun _ h9 => h9) rfl d_Model_keep_9 ?_
  refine va_last hx hb hK hP hD hS 1 2 rfl rfl (ib_in (oi_mulE (show (6 : Int32).toInt = 6 by decide) (Eq.refl r.toInt) (by omega) (by omega)) (by omega) (by omega)) d_Model_keep_12 (fun H locs hP hD hS => ?_)
  have hP : va_P (dC, dI) vwCl [(oM, .inr (8, [.int th, .ref mT, .int ml, .int ma, .int mk, .int mp, .long mv, .int mw, .ref mN, .ref mD, .ref mF, .ref mS, .ref mL, .ref mR, .ref mE, .ref mK, .ref mV, .int dr, .int dc, .int ds, .int ru, .int cl, .ref mO, .int os, .int fc, .ref mA, .ref mB, .ref mU, .ref mW, .int pi, .int wh, .long ms, .int aq, .int da, .ref mX, .ref mY, .long lu, .long ld, .long qu, .long qd])), (mY, .inl (cJ, 72, .inr (.inl (vp_updL re (6 * r).toNatClampNeg lu))))] H := hP
  have hD : va_D A [(oM, .inr (8, [.int th, .ref mT, .int ml, .int ma, .int mk, .int mp, .long mv, .int mw, .ref mN, .ref mD, .ref mF, .ref mS, .ref mL, .ref mR, .ref mE, .ref mK, .ref mV, .int dr, .int dc, .int ds, .int ru, .int cl, .ref mO, .int os, .int fc, .ref mA, .ref mB, .ref mU, .ref mW, .int pi, .int wh, .long ms, .int aq, .int da, .ref mX, .ref mY, .long lu, .long ld, .long qu, .long qd])), (mY, .inl (cJ, 72, .inr (.inl (vp_updL re (6 * r).toNatClampNeg lu))))] := hD
  refine lv_aload_n hx hb d_Model_keep_13 rfl (lv_at hl 0 rfl) ?_
  refine va_get (D := (dC, dI)) (ci := 8) (v := .ref mY) (C := "PermitRulesModel") (T := T_Model) (N := 40) hx hb htb in_Model hown hK hP 0 rfl rfl 35 (by decide) (htb _ mb_688) (fun _ h9 => h9) rfl d_Model_keep_14 ?_
  refine lv_bipush (v := 6) hx hb d_Model_keep_17 (by decide) ?_
  refine lv_iload_n hx hb d_Model_keep_19 rfl (lv_at hl 1 rfl) ?_
  refine lv_imul hx hb d_Model_keep_20 ?_
  refine lv_iconst (v := 1) hx hb d_Model_keep_21 (by decide) ?_
  refine lv_iadd hx hb d_Model_keep_22 ?_
  refine lv_aload_n hx hb d_Model_keep_23 rfl (lv_at hl 0 rfl) ?_
  refine va_get (D := (dC, dI)) (ci := 8) (v := .long ld) (C := "PermitRulesModel") (T := T_Model) (N := 40) hx hb htb in_Model hown hK hP 0 rfl rfl 37 (by decide) (htb _ mb_690) (fun _ h9 => h9) rfl d_Model_keep_24 ?_
  refine va_last hx hb hK hP hD hS 1 2 rfl rfl (ib_in (oi_addE (oi_mulE (show (6 : Int32).toInt = 6 by decide) (Eq.refl r.toInt) (by omega) (by omega)) (show (1 : Int32).toInt = 1 by decide) (by omega) (by omega)) (by omega) (by omega)) d_Model_keep_27 (fun H locs hP hD hS => ?_)
  have hP : va_P (dC, dI) vwCl [(oM, .inr (8, [.int th, .ref mT, .int ml, .int ma, .int mk, .int mp, .long mv, .int mw, .ref mN, .ref mD, .ref mF, .ref mS, .ref mL, .ref mR, .ref mE, .ref mK, .ref mV, .int dr, .int dc, .int ds, .int ru, .int cl, .ref mO, .int os, .int fc, .ref mA, .ref mB, .ref mU, .ref mW, .int pi, .int wh, .long ms, .int aq, .int da, .ref mX, .ref mY, .long lu, .long ld, .long qu, .long qd])), (mY, .inl (cJ, 72, .inr (.inl (vp_updL (vp_updL re (6 * r).toNatClampNeg lu) ((6 * r) + 1).toNatClampNeg ld))))] H := hP
  have hD : va_D A [(oM, .inr (8, [.int th, .ref mT, .int ml, .int ma, .int mk, .int mp, .long mv, .int mw, .ref mN, .ref mD, .ref mF, .ref mS, .ref mL, .ref mR, .ref mE, .ref mK, .ref mV, .int dr, .int dc, .int ds, .int ru, .int cl, .ref mO, .int os, .int fc, .ref mA, .ref mB, .ref mU, .ref mW, .int pi, .int wh, .long ms, .int aq, .int da, .ref mX, .ref mY, .long lu, .long ld, .long qu, .long qd])), (mY, .inl (cJ, 72, .inr (.inl (vp_updL (vp_updL re (6 * r).toNatClampNeg lu) ((6 * r) + 1).toNatClampNeg ld))))] := hD
  refine lv_aload_n hx hb d_Model_keep_28 rfl (lv_at hl 0 rfl) ?_
  refine va_get (D := (dC, dI)) (ci := 8) (v := .ref mY) (C := "PermitRulesModel") (T := T_Model) (N := 40) hx hb htb in_Model hown hK hP 0 rfl rfl 35 (by decide) (htb _ mb_688) (fun _ h9 => h9) rfl d_Model_keep_29 ?_
  refine lv_bipush (v := 6) hx hb d_Model_keep_32 (by decide) ?_
  refine lv_iload_n hx hb d_Model_keep_34 rfl (lv_at hl 1 rfl) ?_
  refine lv_imul hx hb d_Model_keep_35 ?_
  refine lv_iconst (v := 2) hx hb d_Model_keep_36 (by decide) ?_
  refine lv_iadd hx hb d_Model_keep_37 ?_
  refine lv_aload_n hx hb d_Model_keep_38 rfl (lv_at hl 0 rfl) ?_
  refine va_get (D := (dC, dI)) (ci := 8) (v := .long qu) (C := "PermitRulesModel") (T := T_Model) (N := 40) hx hb htb in_Model hown hK hP 0 rfl rfl 38 (by decide) (htb _ mb_691) (fun _ h9 => h9) rfl d_Model_keep_39 ?_
  refine va_last hx hb hK hP hD hS 1 2 rfl rfl (ib_in (oi_addE (oi_mulE (show (6 : Int32).toInt = 6 by decide) (Eq.refl r.toInt) (by omega) (by omega)) (show (2 : Int32).toInt = 2 by decide) (by omega) (by omega)) (by omega) (by omega)) d_Model_keep_42 (fun H locs hP hD hS => ?_)
  have hP : va_P (dC, dI) vwCl [(oM, .inr (8, [.int th, .ref mT, .int ml, .int ma, .int mk, .int mp, .long mv, .int mw, .ref mN, .ref mD, .ref mF, .ref mS, .ref mL, .ref mR, .ref mE, .ref mK, .ref mV, .int dr, .int dc, .int ds, .int ru, .int cl, .ref mO, .int os, .int fc, .ref mA, .ref mB, .ref mU, .ref mW, .int pi, .int wh, .long ms, .int aq, .int da, .ref mX, .ref mY, .long lu, .long ld, .long qu, .long qd])), (mY, .inl (cJ, 72, .inr (.inl (vp_updL (vp_updL (vp_updL re (6 * r).toNatClampNeg lu) ((6 * r) + 1).toNatClampNeg ld) ((6 * r) + 2).toNatClampNeg qu))))] H := hP
  have hD : va_D A [(oM, .inr (8, [.int th, .ref mT, .int ml, .int ma, .int mk, .int mp, .long mv, .int mw, .ref mN, .ref mD, .ref mF, .ref mS, .ref mL, .ref mR, .ref mE, .ref mK, .ref mV, .int dr, .int dc, .int ds, .int ru, .int cl, .ref mO, .int os, .int fc, .ref mA, .ref mB, .ref mU, .ref mW, .int pi, .int wh, .long ms, .int aq, .int da, .ref mX, .ref mY, .long lu, .long ld, .long qu, .long qd])), (mY, .inl (cJ, 72, .inr (.inl (vp_updL (vp_updL (vp_updL re (6 * r).toNatClampNeg lu) ((6 * r) + 1).toNatClampNeg ld) ((6 * r) + 2).toNatClampNeg qu))))] := hD
  refine lv_aload_n hx hb d_Model_keep_43 rfl (lv_at hl 0 rfl) ?_
  refine va_get (D := (dC, dI)) (ci := 8) (v := .ref mY) (C := "PermitRulesModel") (T := T_Model) (N := 40) hx hb htb in_Model hown hK hP 0 rfl rfl 35 (by decide) (htb _ mb_688) (fun _ h9 => h9) rfl d_Model_keep_44 ?_
  refine lv_bipush (v := 6) hx hb d_Model_keep_47 (by decide) ?_
  refine lv_iload_n hx hb d_Model_keep_49 rfl (lv_at hl 1 rfl) ?_
  refine lv_imul hx hb d_Model_keep_50 ?_
  refine lv_iconst (v := 3) hx hb d_Model_keep_51 (by decide) ?_
  refine lv_iadd hx hb d_Model_keep_52 ?_
  refine lv_aload_n hx hb d_Model_keep_53 rfl (lv_at hl 0 rfl) ?_
  refine va_get (D := (dC, dI)) (ci := 8) (v := .long qd) (C := "PermitRulesModel") (T := T_Model) (N := 40) hx hb htb in_Model hown hK hP 0 rfl rfl 39 (by decide) (htb _ mb_692) (fun _ h9 => h9) rfl d_Model_keep_54 ?_
  refine va_last hx hb hK hP hD hS 1 2 rfl rfl (ib_in (oi_addE (oi_mulE (show (6 : Int32).toInt = 6 by decide) (Eq.refl r.toInt) (by omega) (by omega)) (show (3 : Int32).toInt = 3 by decide) (by omega) (by omega)) (by omega) (by omega)) d_Model_keep_57 (fun H locs hP hD hS => ?_)
  have hP : va_P (dC, dI) vwCl [(oM, .inr (8, [.int th, .ref mT, .int ml, .int ma, .int mk, .int mp, .long mv, .int mw, .ref mN, .ref mD, .ref mF, .ref mS, .ref mL, .ref mR, .ref mE, .ref mK, .ref mV, .int dr, .int dc, .int ds, .int ru, .int cl, .ref mO, .int os, .int fc, .ref mA, .ref mB, .ref mU, .ref mW, .int pi, .int wh, .long ms, .int aq, .int da, .ref mX, .ref mY, .long lu, .long ld, .long qu, .long qd])), (mY, .inl (cJ, 72, .inr (.inl (vp_updL (vp_updL (vp_updL (vp_updL re (6 * r).toNatClampNeg lu) ((6 * r) + 1).toNatClampNeg ld) ((6 * r) + 2).toNatClampNeg qu) ((6 * r) + 3).toNatClampNeg qd))))] H := hP
  have hD : va_D A [(oM, .inr (8, [.int th, .ref mT, .int ml, .int ma, .int mk, .int mp, .long mv, .int mw, .ref mN, .ref mD, .ref mF, .ref mS, .ref mL, .ref mR, .ref mE, .ref mK, .ref mV, .int dr, .int dc, .int ds, .int ru, .int cl, .ref mO, .int os, .int fc, .ref mA, .ref mB, .ref mU, .ref mW, .int pi, .int wh, .long ms, .int aq, .int da, .ref mX, .ref mY, .long lu, .long ld, .long qu, .long qd])), (mY, .inl (cJ, 72, .inr (.inl (vp_updL (vp_updL (vp_updL (vp_updL re (6 * r).toNatClampNeg lu) ((6 * r) + 1).toNatClampNeg ld) ((6 * r) + 2).toNatClampNeg qu) ((6 * r) + 3).toNatClampNeg qd))))] := hD
  have hP9 := hP.sub (ws' := [(oM, .inr (8, [.int th, .ref mT, .int ml, .int ma, .int mk, .int mp, .long mv, .int mw, .ref mN, .ref mD, .ref mF, .ref mS, .ref mL, .ref mR, .ref mE, .ref mK, .ref mV, .int dr, .int dc, .int ds, .int ru, .int cl, .ref mO, .int os, .int fc, .ref mA, .ref mB, .ref mU, .ref mW, .int pi, .int wh, .long ms, .int aq, .int da, .ref mX, .ref mY, .long lu, .long ld, .long qu, .long qd])), (mY, .inl (cJ, 72, .inr (.inl (vp_updL (vp_updL (vp_updL (vp_updL re (6 * r).toNatClampNeg lu) ((6 * r) + 1).toNatClampNeg ld) ((6 * r) + 2).toNatClampNeg qu) ((6 * r) + 3).toNatClampNeg qd))))]) [0, 1] rfl
  have hD9 := hD.sub (ws' := [(oM, .inr (8, [.int th, .ref mT, .int ml, .int ma, .int mk, .int mp, .long mv, .int mw, .ref mN, .ref mD, .ref mF, .ref mS, .ref mL, .ref mR, .ref mE, .ref mK, .ref mV, .int dr, .int dc, .int ds, .int ru, .int cl, .ref mO, .int os, .int fc, .ref mA, .ref mB, .ref mU, .ref mW, .int pi, .int wh, .long ms, .int aq, .int da, .ref mX, .ref mY, .long lu, .long ld, .long qu, .long qd])), (mY, .inl (cJ, 72, .inr (.inl (vp_updL (vp_updL (vp_updL (vp_updL re (6 * r).toNatClampNeg lu) ((6 * r) + 1).toNatClampNeg ld) ((6 * r) + 2).toNatClampNeg qu) ((6 * r) + 3).toNatClampNeg qd))))]) [0, 1] (by decide) rfl
  exact W.vret hx hb hr (fun t ht hW => ⟨⟨vp_updL (vp_updL (vp_updL (vp_updL re (6 * r).toNatClampNeg lu) ((6 * r) + 1).toNatClampNeg ld) ((6 * r) + 2).toNatClampNeg qu) ((6 * r) + 3).toNatClampNeg qd, rfl, by rw [hF], by rw [ht]; exact hP9, hD9⟩, hS.F ht⟩) hS.2.2 d_Model_keep_58
def f_Model_rule_L21 (nm : Int64) (ru : Int32) (nn : (Nat → Int64)) : Nat → Int32 → Int32 → Int32 → Int32 × Int32
  | 0, _, _, _ => (0, 0)
  | n + 1, r, fo, xt => (if ru ≤ r then (if xt ≤ 0 then (fo, xt) else (0, xt)) else (if xt = 0 then (if (lg_cmp (nn (12 + r).toNatClampNeg) nm) = 0 then (f_Model_rule_L21 nm ru nn n (r + 1) r xt) else (f_Model_rule_L21 nm ru nn n (r + 1) fo xt)) else (if xt ≤ 0 then (fo, xt) else (0, xt))))
theorem f_Model_rule_L21_s (nm : Int64) (ru : Int32) (nn : (Nat → Int64)) (n : Nat) (r : Int32) (fo : Int32) (xt : Int32) : f_Model_rule_L21 nm ru nn (n + 1) r fo xt = (if ru ≤ r then (if xt ≤ 0 then (fo, xt) else (0, xt)) else (if xt = 0 then (if (lg_cmp (nn (12 + r).toNatClampNeg) nm) = 0 then (f_Model_rule_L21 nm ru nn n (r + 1) r xt) else (f_Model_rule_L21 nm ru nn n (r + 1) fo xt)) else (if xt ≤ 0 then (fo, xt) else (0, xt)))) := rfl
def f_Model_rule (nm : Int64) (ru : Int32) (nn : (Nat → Int64)) : Int32 × Int32 := (lt_ (f_Model_isName nm) fun z_1 => (if z_1 = 0 then (f_Model_rule_L21 nm ru nn (ru.toInt.toNat + 1) 0 (-1) 1) else (f_Model_rule_L21 nm ru nn (ru.toInt.toNat + 1) 0 (-1) 0)))
abbrev q_Model_rule (dC : Nat → ClassId) (dI : Nat → Nat → Nat) (cB cI cJ : ClassId) (oM mT mN mD mF mS mL mR mE mK mV mO mA mB mU mW mX mY : Nat) (nm : Int64) (th : Int32) (ml : Int32) (ma : Int32) (mk : Int32) (mp : Int32) (mv : Int64) (mw : Int32) (dr : Int32) (dc : Int32) (ds : Int32) (ru : Int32) (cl : Int32) (os : Int32) (fc : Int32) (pi : Int32) (wh : Int32) (ms : Int64) (aq : Int32) (da : Int32) (lu : Int64) (ld : Int64) (qu : Int64) (qd : Int64) (nn : (Nat → Int64)) (A : Nat → Prop) : Array Value → State → Outcome → State → Prop := va_Qi (fun (r : Int32) (u : Int32) => r = (f_Model_rule nm ru nn).1 ∧ u = (f_Model_rule nm ru nn).2) (fun u t => va_P (dC, dI) vwCl [(oM, .inr (8, [.int u, .ref mT, .int ml, .int ma, .int mk, .int mp, .long mv, .int mw, .ref mN, .ref mD, .ref mF, .ref mS, .ref mL, .ref mR, .ref mE, .ref mK, .ref mV, .int dr, .int dc, .int ds, .int ru, .int cl, .ref mO, .int os, .int fc, .ref mA, .ref mB, .ref mU, .ref mW, .int pi, .int wh, .long ms, .int aq, .int da, .ref mX, .ref mY, .long lu, .long ld, .long qu, .long qd])), (mN, .inl (cJ, 24, .inr (.inl nn)))] t.heap ∧ va_D A [(oM, .inr (8, [.int u, .ref mT, .int ml, .int ma, .int mk, .int mp, .long mv, .int mw, .ref mN, .ref mD, .ref mF, .ref mS, .ref mL, .ref mR, .ref mE, .ref mK, .ref mV, .int dr, .int dc, .int ds, .int ru, .int cl, .ref mO, .int os, .int fc, .ref mA, .ref mB, .ref mU, .ref mW, .int pi, .int wh, .long ms, .int aq, .int da, .ref mX, .ref mY, .long lu, .long ld, .long qu, .long qd])), (mN, .inl (cJ, 24, .inr (.inl nn)))]) A
set_option maxHeartbeats 4000000 in
set_option maxRecDepth 100000 in
theorem c_Model_rule (l : Launch) (dC : Nat → ClassId) (dI : Nat → Nat → Nat) (cB cI cJ : ClassId) (oM mT mN mD mF mS mL mR mE mK mV mO mA mB mU mW mX mY : Nat) (sz : Nat) (nm : Int64) (th : Int32) (ml : Int32) (ma : Int32) (mk : Int32) (mp : Int32) (mv : Int64) (mw : Int32) (dr : Int32) (dc : Int32) (ds : Int32) (ru : Int32) (cl : Int32) (os : Int32) (fc : Int32) (pi : Int32) (wh : Int32) (ms : Int64) (aq : Int32) (da : Int32) (lu : Int64) (ld : Int64) (qu : Int64) (qd : Int64) (nn : (Nat → Int64)) (hr0 : 0 ≤ ru.toInt) (hr : ru.toInt ≤ 12) : Met l y_Model_rule (cw_Model_rule :: bgw) { frames := 2, cells := 0, slots := 0, locals := 49 } (va_Pc [.ref oM, .long nm] (kb_B dC dI cB cI cJ [(oM, .inr (8, [.int th, .ref mT, .int ml, .int ma, .int mk, .int mp, .long mv, .int mw, .ref mN, .ref mD, .ref mF, .ref mS, .ref mL, .ref mR, .ref mE, .ref mK, .ref mV, .int dr, .int dc, .int ds, .int ru, .int cl, .ref mO, .int os, .int fc, .ref mA, .ref mB, .ref mU, .ref mW, .int pi, .int wh, .long ms, .int aq, .int da, .ref mX, .ref mY, .long lu, .long ld, .long qu, .long qd])), (mN, .inl (cJ, 24, .inr (.inl nn)))] sz)) (q_Model_rule dC dI cB cI cJ oM mT mN mD mF mS mL mR mE mK mV mO mA mB mU mW mX mY nm th ml ma mk mp mv mw dr dc ds ru cl os fc pi wh ms aq da lu ld qu qd nn (va_A [(oM, .inr (8, [.int th, .ref mT, .int ml, .int ma, .int mk, .int mp, .long mv, .int mw, .ref mN, .ref mD, .ref mF, .ref mS, .ref mL, .ref mR, .ref mE, .ref mK, .ref mV, .int dr, .int dc, .int ds, .int ru, .int cl, .ref mO, .int os, .int fc, .ref mA, .ref mB, .ref mU, .ref mW, .int pi, .int wh, .long ms, .int aq, .int da, .ref mX, .ref mY, .long lu, .long ld, .long qu, .long qd])), (mN, .inl (cJ, 24, .inr (.inl nn)))] sz)) 0 0 (va_A [(oM, .inr (8, [.int th, .ref mT, .int ml, .int ma, .int mk, .int mp, .long mv, .int mw, .ref mN, .ref mD, .ref mF, .ref mS, .ref mL, .ref mR, .ref mE, .ref mK, .ref mV, .int dr, .int dc, .int ds, .int ru, .int cl, .ref mO, .int os, .int fc, .ref mA, .ref mB, .ref mU, .ref mW, .int pi, .int wh, .long ms, .int aq, .int da, .ref mX, .ref mY, .long lu, .long ld, .long qu, .long qd])), (mN, .inl (cJ, 24, .inr (.inl nn)))] sz) := by
  refine Met.ofW (cc := prog_10_method_34_code) (maxL := 5) (ret := (some .int)) (by decide) rfl ?_
  intro p e s m args below meth c s₁ B hml hv
  obtain ⟨rfl, hsz, hP, hKx, hD0⟩ := hv
  have hx := B.exec
  have hb := B.bytes
  have hr := B.returns
  have hts := atoms_spec (ws := (cw_Model_rule :: bgw)) B.pre
  have hown : s.vm.findClass "PermitRulesModel" = some m.cls := findClass_of_methodNamed B.named
  have hlocks := B.notSynchronized
  have htb := fun (w : Cond) (h : w ∈ bgw) => hts w (List.mem_cons_of_mem _ h)
  have hK := hKx.1
  subst hsz
  have hD := hD0.self (sz := s.heap.size)
  generalize hAe : va_A [(oM, .inr (8, [.int th, .ref mT, .int ml, .int ma, .int mk, .int mp, .long mv, .int mw, .ref mN, .ref mD, .ref mF, .ref mS, .ref mL, .ref mR, .ref mE, .ref mK, .ref mV, .int dr, .int dc, .int ds, .int ru, .int cl, .ref mO, .int os, .int fc, .ref mA, .ref mB, .ref mU, .ref mW, .int pi, .int wh, .long ms, .int aq, .int da, .ref mX, .ref mY, .long lu, .long ld, .long qu, .long qd])), (mN, .inl (cJ, 24, .inr (.inl nn)))] s.heap.size = A at hD ⊢
  have hA : ∀ q : Nat, s.heap.size ≤ q → A q := fun q h => by rw [← hAe]; exact Or.inr h
  have hS : va_S A s.heap s.heap [] := va_S.rf
  have hl := lv_entry ([.ref oM, .long nm]) (n := 5) (Nat.le_of_ble_eq_true rfl)
  rw [lg_entry_eq]
  generalize (lg_sl ([.ref oM, .long nm]) ++ List.replicate (5 - (lg_sl ([.ref oM, .long nm])).length) Slot.unset).toArray = ls at hl ⊢
  have hl : lv_has ls 5 [(0, .ref oM), (1, .long nm)] := hl
  have hP : va_P (dC, dI) vwCl [(oM, .inr (8, [.int th, .ref mT, .int ml, .int ma, .int mk, .int mp, .long mv, .int mw, .ref mN, .ref mD, .ref mF, .ref mS, .ref mL, .ref mR, .ref mE, .ref mK, .ref mV, .int dr, .int dc, .int ds, .int ru, .int cl, .ref mO, .int os, .int fc, .ref mA, .ref mB, .ref mU, .ref mW, .int pi, .int wh, .long ms, .int aq, .int da, .ref mX, .ref mY, .long lu, .long ld, .long qu, .long qd])), (mN, .inl (cJ, 24, .inr (.inl nn)))] s.heap := hP
  have hF : f_Model_rule nm ru nn = (lt_ (f_Model_isName nm) fun z_1 => (if z_1 = 0 then (f_Model_rule_L21 nm ru nn (ru.toInt.toNat + 1) 0 (-1) 1) else (f_Model_rule_L21 nm ru nn (ru.toInt.toNat + 1) 0 (-1) 0))) := rfl
  have lp21 : ∀ (n : Nat) (r : Int32) (fo : Int32) (xt : Int32), 0 ≤ r.toInt → (ru.toInt - r.toInt).toNat < n → f_Model_rule nm ru nn = f_Model_rule_L21 nm ru nn n r fo xt → ∀ (H : Heap) (locs : List Loc) (ls : Array Slot), va_P (dC, dI) vwCl [(oM, .inr (8, [.int xt, .ref mT, .int ml, .int ma, .int mk, .int mp, .long mv, .int mw, .ref mN, .ref mD, .ref mF, .ref mS, .ref mL, .ref mR, .ref mE, .ref mK, .ref mV, .int dr, .int dc, .int ds, .int ru, .int cl, .ref mO, .int os, .int fc, .ref mA, .ref mB, .ref mU, .ref mW, .int pi, .int wh, .long ms, .int aq, .int da, .ref mX, .ref mY, .long lu, .long ld, .long qu, .long qd])), (mN, .inl (cJ, 24, .inr (.inl nn)))] H → va_D A [(oM, .inr (8, [.int xt, .ref mT, .int ml, .int ma, .int mk, .int mp, .long mv, .int mw, .ref mN, .ref mD, .ref mF, .ref mS, .ref mL, .ref mR, .ref mE, .ref mK, .ref mV, .int dr, .int dc, .int ds, .int ru, .int cl, .ref mO, .int os, .int fc, .ref mA, .ref mB, .ref mU, .ref mW, .int pi, .int wh, .long ms, .int aq, .int da, .ref mX, .ref mY, .long lu, .long ld, .long qu, .long qd])), (mN, .inl (cJ, 24, .inr (.inl nn)))] → va_S A s.heap H locs → lv_has ls 5 [(4, .int r), (3, .int fo), (0, .ref oM), (1, .long nm)] → W p l e (headSpec (cw_Model_rule :: bgw) { frames := 2, cells := 0, slots := 0, locals := 49 }).room s m ([.ref oM, .long nm] : List Value).toArray below meth c H locs 0 0 (MQ below (q_Model_rule dC dI cB cI cJ oM mT mN mD mF mS mL mR mE mK mV mO mA mB mU mW mX mY nm th ml ma mk mp mv mw dr dc ds ru cl os fc pi wh ms aq da lu ld qu qd nn A) ([.ref oM, .long nm] : List Value).toArray s 0 0 A) (F0 m 21 ls []) := by
    intro n
    induction n with
    | zero => intro r fo xt i0 hn; exact absurd hn (Nat.not_lt_zero _)
    | succ n ih =>
      intro r fo xt i0 hn hF H locs ls hP hD hS hl
      have hF := hF.trans (f_Model_rule_L21_s nm ru nn n r fo xt)
      refine lv_iload hx hb d_Model_rule_21 (lv_at hl 0 rfl) ?_
      refine lv_aload_n hx hb d_Model_rule_23 rfl (lv_at hl 2 rfl) ?_
      refine va_get (D := (dC, dI)) (ci := 8) (v := .int ru) (C := "PermitRulesModel") (T := T_Model) (N := 40) hx hb htb in_Model hown hK hP 0 rfl rfl 20 (by decide) (htb _ mb_673) (fun _ h9 => h9) rfl d_Model_rule_24 ?_
      refine lv_icmp_ge (tgt := 65) hx hb d_Model_rule_27 (by decide) (fun c_3 => ?_) (fun c_3 => ?_)
      · have hF := hF.trans (if_pos c_3)
        have tc_3 := ti_le (Eq.refl ru.toInt) (Eq.refl r.toInt) c_3
        refine lv_aload_n hx hb d_Model_rule_65 rfl (lv_at hl 2 rfl) ?_
        refine va_get (D := (dC, dI)) (ci := 8) (v := .int xt) (C := "PermitRulesModel") (T := T_Model) (N := 40) hx hb htb in_Model hown hK hP 0 rfl rfl 0 (by decide) (htb _ mb_653) (fun _ h9 => h9) rfl d_Model_rule_66 ?_
        refine lv_if_le (tgt := 76) hx hb d_Model_rule_69 (by decide) (fun c_4 => ?_) (fun c_4 => ?_)
        · have hF := hF.trans (if_pos c_4)
          have tc_4 := ti_le (Eq.refl xt.toInt) (show (0 : Int32).toInt = 0 by decide) c_4
          refine lv_iload_n hx hb d_Model_rule_76 rfl (lv_at hl 1 rfl) ?_
          have hP9 := hP.sub (ws' := [(oM, .inr (8, [.int xt, .ref mT, .int ml, .int ma, .int mk, .int mp, .long mv, .int mw, .ref mN, .ref mD, .ref mF, .ref mS, .ref mL, .ref mR, .ref mE, .ref mK, .ref mV, .int dr, .int dc, .int ds, .int ru, .int cl, .ref mO, .int os, .int fc, .ref mA, .ref mB, .ref mU, .ref mW, .int pi, .int wh, .long ms, .int aq, .int da, .ref mX, .ref mY, .long lu, .long ld, .long qu, .long qd])), (mN, .inl (cJ, 24, .inr (.inl nn)))]) [0, 1] rfl
          have hD9 := hD.sub (ws' := [(oM, .inr (8, [.int xt, .ref mT, .int ml, .int ma, .int mk, .int mp, .long mv, .int mw, .ref mN, .ref mD, .ref mF, .ref mS, .ref mL, .ref mR, .ref mE, .ref mK, .ref mV, .int dr, .int dc, .int ds, .int ru, .int cl, .ref mO, .int os, .int fc, .ref mA, .ref mB, .ref mU, .ref mW, .int pi, .int wh, .long ms, .int aq, .int da, .ref mX, .ref mY, .long lu, .long ld, .long qu, .long qd])), (mN, .inl (cJ, 24, .inr (.inl nn)))]) [0, 1] (by decide) rfl
          exact W.iret (v := fo) hx hb hr (fun t ht hW => ⟨⟨fo, xt, rfl, ⟨by rw [hF], by rw [hF]⟩, by rw [ht]; exact hP9, hD9⟩, hS.F ht⟩) hS.2.2 d_Model_rule_77
        · have hF := hF.trans (if_neg c_4)
          have tc_4 := ti_nle (Eq.refl xt.toInt) (show (0 : Int32).toInt = 0 by decide) c_4
          refine lv_iconst (v := 0) hx hb d_Model_rule_72 (by decide) ?_
          refine lv_goto (tgt := 77) hx hb d_Model_rule_73 (by decide) ?_
          have hP9 := hP.sub (ws' := [(oM, .inr (8, [.int xt, .ref mT, .int ml, .int ma, .int mk, .int mp, .long mv, .int mw, .ref mN, .ref mD, .ref mF, .ref mS, .ref mL, .ref mR, .ref mE, .ref mK, .ref mV, .int dr, .int dc, .int ds, .int ru, .int cl, .ref mO, .int os, .int fc, .ref mA, .ref mB, .ref mU, .ref mW, .int pi, .int wh, .long ms, .int aq, .int da, .ref mX, .ref mY, .long lu, .long ld, .long qu, .long qd])), (mN, .inl (cJ, 24, .inr (.inl nn)))]) [0, 1] rfl
          have hD9 := hD.sub (ws' := [(oM, .inr (8, [.int xt, .ref mT, .int ml, .int ma, .int mk, .int mp, .long mv, .int mw, .ref mN, .ref mD, .ref mF, .ref mS, .ref mL, .ref mR, .ref mE, .ref mK, .ref mV, .int dr, .int dc, .int ds, .int ru, .int cl, .ref mO, .int os, .int fc, .ref mA, .ref mB, .ref mU, .ref mW, .int pi, .int wh, .long ms, .int aq, .int da, .ref mX, .ref mY, .long lu, .long ld, .long qu, .long qd])), (mN, .inl (cJ, 24, .inr (.inl nn)))]) [0, 1] (by decide) rfl
          exact W.iret (v := (0 : Int32)) hx hb hr (fun t ht hW => ⟨⟨(0 : Int32), xt, rfl, ⟨by rw [hF], by rw [hF]⟩, by rw [ht]; exact hP9, hD9⟩, hS.F ht⟩) hS.2.2 d_Model_rule_77
      · have hF := hF.trans (if_neg c_3)
        have tc_3 := ti_nle (Eq.refl ru.toInt) (Eq.refl r.toInt) c_3
        refine lv_aload_n hx hb d_Model_rule_30 rfl (lv_at hl 2 rfl) ?_
        refine va_get (D := (dC, dI)) (ci := 8) (v := .int xt) (C := "PermitRulesModel") (T := T_Model) (N := 40) hx hb htb in_Model hown hK hP 0 rfl rfl 0 (by decide) (htb _ mb_653) (fun _ h9 => h9) rfl d_Model_rule_31 ?_
        refine lv_if_ne (tgt := 65) hx hb d_Model_rule_34 (by decide) (fun c_5 => ?_) (fun c_5 => ?_)
        · have hF := hF.trans (if_neg c_5)
          have tc_5 := ti_ne (Eq.refl xt.toInt) (show (0 : Int32).toInt = 0 by decide) c_5
          refine lv_aload_n hx hb d_Model_rule_65 rfl (lv_at hl 2 rfl) ?_
          refine va_get (D := (dC, dI)) (ci := 8) (v := .int xt) (C := "PermitRulesModel") (T := T_Model) (N := 40) hx hb htb in_Model hown hK hP 0 rfl rfl 0 (by decide) (htb _ mb_653) (fun _ h9 => h9) rfl d_Model_rule_66 ?_
          refine lv_if_le (tgt := 76) hx hb d_Model_rule_69 (by decide) (fun c_6 => ?_) (fun c_6 => ?_)
          · have hF := hF.trans (if_pos c_6)
            have tc_6 := ti_le (Eq.refl xt.toInt) (show (0 : Int32).toInt = 0 by decide) c_6
            refine lv_iload_n hx hb d_Model_rule_76 rfl (lv_at hl 1 rfl) ?_
            have hP9 := hP.sub (ws' := [(oM, .inr (8, [.int xt, .ref mT, .int ml, .int ma, .int mk, .int mp, .long mv, .int mw, .ref mN, .ref mD, .ref mF, .ref mS, .ref mL, .ref mR, .ref mE, .ref mK, .ref mV, .int dr, .int dc, .int ds, .int ru, .int cl, .ref mO, .int os, .int fc, .ref mA, .ref mB, .ref mU, .ref mW, .int pi, .int wh, .long ms, .int aq, .int da, .ref mX, .ref mY, .long lu, .long ld, .long qu, .long qd])), (mN, .inl (cJ, 24, .inr (.inl nn)))]) [0, 1] rfl
            have hD9 := hD.sub (ws' := [(oM, .inr (8, [.int xt, .ref mT, .int ml, .int ma, .int mk, .int mp, .long mv, .int mw, .ref mN, .ref mD, .ref mF, .ref mS, .ref mL, .ref mR, .ref mE, .ref mK, .ref mV, .int dr, .int dc, .int ds, .int ru, .int cl, .ref mO, .int os, .int fc, .ref mA, .ref mB, .ref mU, .ref mW, .int pi, .int wh, .long ms, .int aq, .int da, .ref mX, .ref mY, .long lu, .long ld, .long qu, .long qd])), (mN, .inl (cJ, 24, .inr (.inl nn)))]) [0, 1] (by decide) rfl
            exact W.iret (v := fo) hx hb hr (fun t ht hW => ⟨⟨fo, xt, rfl, ⟨by rw [hF], by rw [hF]⟩, by rw [ht]; exact hP9, hD9⟩, hS.F ht⟩) hS.2.2 d_Model_rule_77
          · have hF := hF.trans (if_neg c_6)
            have tc_6 := ti_nle (Eq.refl xt.toInt) (show (0 : Int32).toInt = 0 by decide) c_6
            refine lv_iconst (v := 0) hx hb d_Model_rule_72 (by decide) ?_
            refine lv_goto (tgt := 77) hx hb d_Model_rule_73 (by decide) ?_
            have hP9 := hP.sub (ws' := [(oM, .inr (8, [.int xt, .ref mT, .int ml, .int ma, .int mk, .int mp, .long mv, .int mw, .ref mN, .ref mD, .ref mF, .ref mS, .ref mL, .ref mR, .ref mE, .ref mK, .ref mV, .int dr, .int dc, .int ds, .int ru, .int cl, .ref mO, .int os, .int fc, .ref mA, .ref mB, .ref mU, .ref mW, .int pi, .int wh, .long ms, .int aq, .int da, .ref mX, .ref mY, .long lu, .long ld, .long qu, .long qd])), (mN, .inl (cJ, 24, .inr (.inl nn)))]) [0, 1] rfl
            have hD9 := hD.sub (ws' := [(oM, .inr (8, [.int xt, .ref mT, .int ml, .int ma, .int mk, .int mp, .long mv, .int mw, .ref mN, .ref mD, .ref mF, .ref mS, .ref mL, .ref mR, .ref mE, .ref mK, .ref mV, .int dr, .int dc, .int ds, .int ru, .int cl, .ref mO, .int os, .int fc, .ref mA, .ref mB, .ref mU, .ref mW, .int pi, .int wh, .long ms, .int aq, .int da, .ref mX, .ref mY, .long lu, .long ld, .long qu, .long qd])), (mN, .inl (cJ, 24, .inr (.inl nn)))]) [0, 1] (by decide) rfl
            exact W.iret (v := (0 : Int32)) hx hb hr (fun t ht hW => ⟨⟨(0 : Int32), xt, rfl, ⟨by rw [hF], by rw [hF]⟩, by rw [ht]; exact hP9, hD9⟩, hS.F ht⟩) hS.2.2 d_Model_rule_77
        · have hF := hF.trans (if_pos c_5)
          have tc_5 := ti_eq (Eq.refl xt.toInt) (show (0 : Int32).toInt = 0 by decide) c_5
          refine lv_aload_n hx hb d_Model_rule_37 rfl (lv_at hl 2 rfl) ?_
          refine va_get (D := (dC, dI)) (ci := 8) (v := .ref mN) (C := "PermitRulesModel") (T := T_Model) (N := 40) hx hb htb in_Model hown hK hP 0 rfl rfl 8 (by decide) (htb _ mb_661) (fun _ h9 => h9) rfl d_Model_rule_38 ?_
          refine lv_bipush (v := 12) hx hb d_Model_rule_41 (by decide) ?_
          refine lv_iload hx hb d_Model_rule_43 (lv_at hl 0 rfl) ?_
          refine lv_iadd hx hb d_Model_rule_45 ?_
          refine va_lald hx hb hK hP 1 2 rfl rfl (ib_in (oi_addE (show (12 : Int32).toInt = 12 by decide) (Eq.refl r.toInt) (by omega) (by omega)) (by omega) (by omega)) d_Model_rule_46 ?_
          refine lv_lload_n hx hb d_Model_rule_47 rfl (lv_at hl 3 rfl) ?_
          refine W.lcmp hx hb d_Model_rule_48 ?_
          refine lv_if_ne (tgt := 57) hx hb d_Model_rule_49 (by decide) (fun c_7 => ?_) (fun c_7 => ?_)
          · have hF := hF.trans (if_neg c_7)
            refine lv_iload_n hx hb d_Model_rule_57 rfl (lv_at hl 1 rfl) ?_
            refine lv_istore_n (lv' := [(3, .int fo), (4, .int r), (0, .ref oM), (1, .long nm)]) hx hb d_Model_rule_58 rfl hl (by decide) rfl (fun ls hl => ?_)
            refine lv_iinc (v := r + 1) (lv' := [(4, .int (r + 1)), (3, .int fo), (0, .ref oM), (1, .long nm)]) hx hb d_Model_rule_59 hl (k := 1) rfl (by first | rfl | decide) (by decide) rfl (fun ls hl => ?_)
            refine lv_goto (tgt := 21) hx hb d_Model_rule_62 (by decide) ?_
            exact ih (r + 1) fo xt (by have q0 := (oi_addE (Eq.refl r.toInt) (show (1 : Int32).toInt = 1 by decide) (by omega) (by omega)); omega) (by have q0 := (oi_addE (Eq.refl r.toInt) (show (1 : Int32).toInt = 1 by decide) (by omega) (by omega)); omega) hF _ _ _ (hP.sub [0, 1] rfl) (hD.sub [0, 1] (by decide) rfl) hS (lv_sub hl [0, 1, 2, 3] rfl)
          · have hF := hF.trans (if_pos c_7)
            refine lv_iload hx hb d_Model_rule_52 (lv_at hl 0 rfl) ?_
            refine lv_goto (tgt := 58) hx hb d_Model_rule_54 (by decide) ?_
            refine lv_istore_n (lv' := [(3, .int r), (4, .int r), (0, .ref oM), (1, .long nm)]) hx hb d_Model_rule_58 rfl hl (by decide) rfl (fun ls hl => ?_)
            refine lv_iinc (v := r + 1) (lv' := [(4, .int (r + 1)), (3, .int r), (0, .ref oM), (1, .long nm)]) hx hb d_Model_rule_59 hl (k := 1) rfl (by first | rfl | decide) (by decide) rfl (fun ls hl => ?_)
            refine lv_goto (tgt := 21) hx hb d_Model_rule_62 (by decide) ?_
            exact ih (r + 1) r xt (by have q0 := (oi_addE (Eq.refl r.toInt) (show (1 : Int32).toInt = 1 by decide) (by omega) (by omega)); omega) (by have q0 := (oi_addE (Eq.refl r.toInt) (show (1 : Int32).toInt = 1 by decide) (by omega) (by omega)); omega) hF _ _ _ (hP.sub [0, 1] rfl) (hD.sub [0, 1] (by decide) rfl) hS (lv_sub hl [0, 1, 2, 3] rfl)
  refine lv_aload_n hx hb d_Model_rule_0 rfl (lv_at hl 0 rfl) ?_
  refine lv_lload_n hx hb d_Model_rule_1 rfl (lv_at hl 1 rfl) ?_
  have hPc := hP.sub (ws' := []) [] rfl
  have hDc := hD.sub (ws' := []) [] (by decide) rfl
  have hFc := va_free (wc := []) hD hS hA [] rfl
  refine va_calli (va_runS (As := [.long nm]) (rest := [.ref oM]) ⟨hx, hb, hml, hown, htb⟩ (c_Model_isName l dC dI cB cI cJ  _ nm ) ⟨callB_of 1 htb (gb_all mb_857) rfl rfl rfl (htb _ mb_9) (htb _ mb_855) (by decide +kernel) ⟨Nat.le_of_ble_eq_true rfl, Nat.le_of_ble_eq_true rfl⟩, htb _ mb_856⟩ ⟨kb_blind, kb_at hPc hDc hKx⟩ rfl rfl hl.1 rfl (lv_room (Nat.le_of_ble_eq_true rfl)) d_Model_rule_2 ⟨Nat.le_of_ble_eq_true rfl, Nat.le_of_ble_eq_true rfl⟩) hS (fun q _ h => hFc q h) hFc (fun z_1 u t H1 locs ht hvm hw hB hz1 hk1 hS => ?_)
  have hz_1 := hw
  have hF := hF.trans (lt_e hz_1)
  obtain ⟨hP1, hD1⟩ := hB
  rw [ht] at hP1
  obtain ⟨hP, hD⟩ := va_join (wr := [(oM, .inr (8, [.int th, .ref mT, .int ml, .int ma, .int mk, .int mp, .long mv, .int mw, .ref mN, .ref mD, .ref mF, .ref mS, .ref mL, .ref mR, .ref mE, .ref mK, .ref mV, .int dr, .int dc, .int ds, .int ru, .int cl, .ref mO, .int os, .int fc, .ref mA, .ref mB, .ref mU, .ref mW, .int pi, .int wh, .long ms, .int aq, .int da, .ref mX, .ref mY, .long lu, .long ld, .long qu, .long qd])), (mN, .inl (cJ, 24, .inr (.inl nn)))]) (w1 := []) hP hD [] [0, 1] rfl rfl (by decide) (by decide) hk1 hFc hP1 hD1
  generalize H1 = H at hP hS ⊢
  have hP : va_P (dC, dI) vwCl [(oM, .inr (8, [.int th, .ref mT, .int ml, .int ma, .int mk, .int mp, .long mv, .int mw, .ref mN, .ref mD, .ref mF, .ref mS, .ref mL, .ref mR, .ref mE, .ref mK, .ref mV, .int dr, .int dc, .int ds, .int ru, .int cl, .ref mO, .int os, .int fc, .ref mA, .ref mB, .ref mU, .ref mW, .int pi, .int wh, .long ms, .int aq, .int da, .ref mX, .ref mY, .long lu, .long ld, .long qu, .long qd])), (mN, .inl (cJ, 24, .inr (.inl nn)))] H := hP
  have hD : va_D A [(oM, .inr (8, [.int th, .ref mT, .int ml, .int ma, .int mk, .int mp, .long mv, .int mw, .ref mN, .ref mD, .ref mF, .ref mS, .ref mL, .ref mR, .ref mE, .ref mK, .ref mV, .int dr, .int dc, .int ds, .int ru, .int cl, .ref mO, .int os, .int fc, .ref mA, .ref mB, .ref mU, .ref mW, .int pi, .int wh, .long ms, .int aq, .int da, .ref mX, .ref mY, .long lu, .long ld, .long qu, .long qd])), (mN, .inl (cJ, 24, .inr (.inl nn)))] := hD
  refine lv_if_eq (tgt := 12) hx hb d_Model_rule_5 (by decide) (fun c_2 => ?_) (fun c_2 => ?_)
  · have hF := hF.trans (if_pos c_2)
    have tc_2 := ti_eq (Eq.refl z_1.toInt) (show (0 : Int32).toInt = 0 by decide) c_2
    refine lv_iconst (v := 1) hx hb d_Model_rule_12 (by decide) ?_
    refine va_put (D := (dC, dI)) (ci := 8) (v := .int 1) (ty := .int) (C := "PermitRulesModel") (T := T_Model) (N := 40) hx hb htb in_Model ty_Model to_Model nm_Model hown hK hP hD hS 0 rfl rfl 0 (by decide) (htb _ mb_653) (fun _ h9 => h9) rfl (by decide +kernel) rfl rfl (Nat.le_of_ble_eq_true rfl) d_Model_rule_13 (fun H locs hP hD hS => ?_)
    have hP : va_P (dC, dI) vwCl [(oM, .inr (8, [.int 1, .ref mT, .int ml, .int ma, .int mk, .int mp, .long mv, .int mw, .ref mN, .ref mD, .ref mF, .ref mS, .ref mL, .ref mR, .ref mE, .ref mK, .ref mV, .int dr, .int dc, .int ds, .int ru, .int cl, .ref mO, .int os, .int fc, .ref mA, .ref mB, .ref mU, .ref mW, .int pi, .int wh, .long ms, .int aq, .int da, .ref mX, .ref mY, .long lu, .long ld, .long qu, .long qd])), (mN, .inl (cJ, 24, .inr (.inl nn)))] H := hP
    have hD : va_D A [(oM, .inr (8, [.int 1, .ref mT, .int ml, .int ma, .int mk, .int mp, .long mv, .int mw, .ref mN, .ref mD, .ref mF, .ref mS, .ref mL, .ref mR, .ref mE, .ref mK, .ref mV, .int dr, .int dc, .int ds, .int ru, .int cl, .ref mO, .int os, .int fc, .ref mA, .ref mB, .ref mU, .ref mW, .int pi, .int wh, .long ms, .int aq, .int da, .ref mX, .ref mY, .long lu, .long ld, .long qu, .long qd])), (mN, .inl (cJ, 24, .inr (.inl nn)))] := hD
    refine lv_iconst (v := (-1)) hx hb d_Model_rule_16 (by decide) ?_
    refine lv_istore_n (lv' := [(3, .int (-1)), (0, .ref oM), (1, .long nm)]) hx hb d_Model_rule_17 rfl hl (by decide) rfl (fun ls hl => ?_)
    refine lv_iconst (v := 0) hx hb d_Model_rule_18 (by decide) ?_
    refine lv_istore (lv' := [(4, .int 0), (3, .int (-1)), (0, .ref oM), (1, .long nm)]) hx hb d_Model_rule_19 hl (by decide) rfl (fun ls hl => ?_)
    exact lp21 (ru.toInt.toNat + 1) 0 (-1) 1 (by have q0 := (show (0 : Int32).toInt = 0 by decide); omega) (by have q0 := (show (0 : Int32).toInt = 0 by decide); omega) hF _ _ _ (hP.sub [0, 1] rfl) (hD.sub [0, 1] (by decide) rfl) hS (lv_sub hl [0, 1, 2, 3] rfl)
  · have hF := hF.trans (if_neg c_2)
    have tc_2 := ti_ne (Eq.refl z_1.toInt) (show (0 : Int32).toInt = 0 by decide) c_2
    refine lv_iconst (v := 0) hx hb d_Model_rule_8 (by decide) ?_
    refine lv_goto (tgt := 13) hx hb d_Model_rule_9 (by decide) ?_
    refine va_put (D := (dC, dI)) (ci := 8) (v := .int 0) (ty := .int) (C := "PermitRulesModel") (T := T_Model) (N := 40) hx hb htb in_Model ty_Model to_Model nm_Model hown hK hP hD hS 0 rfl rfl 0 (by decide) (htb _ mb_653) (fun _ h9 => h9) rfl (by decide +kernel) rfl rfl (Nat.le_of_ble_eq_true rfl) d_Model_rule_13 (fun H locs hP hD hS => ?_)
    have hP : va_P (dC, dI) vwCl [(oM, .inr (8, [.int 0, .ref mT, .int ml, .int ma, .int mk, .int mp, .long mv, .int mw, .ref mN, .ref mD, .ref mF, .ref mS, .ref mL, .ref mR, .ref mE, .ref mK, .ref mV, .int dr, .int dc, .int ds, .int ru, .int cl, .ref mO, .int os, .int fc, .ref mA, .ref mB, .ref mU, .ref mW, .int pi, .int wh, .long ms, .int aq, .int da, .ref mX, .ref mY, .long lu, .long ld, .long qu, .long qd])), (mN, .inl (cJ, 24, .inr (.inl nn)))] H := hP
    have hD : va_D A [(oM, .inr (8, [.int 0, .ref mT, .int ml, .int ma, .int mk, .int mp, .long mv, .int mw, .ref mN, .ref mD, .ref mF, .ref mS, .ref mL, .ref mR, .ref mE, .ref mK, .ref mV, .int dr, .int dc, .int ds, .int ru, .int cl, .ref mO, .int os, .int fc, .ref mA, .ref mB, .ref mU, .ref mW, .int pi, .int wh, .long ms, .int aq, .int da, .ref mX, .ref mY, .long lu, .long ld, .long qu, .long qd])), (mN, .inl (cJ, 24, .inr (.inl nn)))] := hD
    refine lv_iconst (v := (-1)) hx hb d_Model_rule_16 (by decide) ?_
    refine lv_istore_n (lv' := [(3, .int (-1)), (0, .ref oM), (1, .long nm)]) hx hb d_Model_rule_17 rfl hl (by decide) rfl (fun ls hl => ?_)
    refine lv_iconst (v := 0) hx hb d_Model_rule_18 (by decide) ?_
    refine lv_istore (lv' := [(4, .int 0), (3, .int (-1)), (0, .ref oM), (1, .long nm)]) hx hb d_Model_rule_19 hl (by decide) rfl (fun ls hl => ?_)
    exact lp21 (ru.toInt.toNat + 1) 0 (-1) 0 (by have q0 := (show (0 : Int32).toInt = 0 by decide); omega) (by have q0 := (show (0 : Int32).toInt = 0 by decide); omega) hF _ _ _ (hP.sub [0, 1] rfl) (hD.sub [0, 1] (by decide) rfl) hS (lv_sub hl [0, 1, 2, 3] rfl)
def f_Model_told (nu : Int32) (wt : Int32) (ru : Int32) (aq : Int32) (sx : (Nat → Int32)) (re : (Nat → Int64)) : Int64 × Int32 := (lt_ (f_Model_in nu.toInt64 0 (ru.toInt64 - 1)) fun z_1 => (if z_1 = 0 then (0, 1) else (lt_ (f_Model_in wt.toInt64 0 6) fun z_4 => (if z_4 = 0 then (0, 1) else (if aq = 0 then (0, 2) else (if wt = 0 then ((sx nu.toNatClampNeg).toInt64, 0) else (re (((6 * nu) + wt) - 1).toNatClampNeg, 0)))))))
abbrev q_Model_told (dC : Nat → ClassId) (dI : Nat → Nat → Nat) (cB cI cJ : ClassId) (oM mT mN mD mF mS mL mR mE mK mV mO mA mB mU mW mX mY : Nat) (nu : Int32) (wt : Int32) (th : Int32) (ml : Int32) (ma : Int32) (mk : Int32) (mp : Int32) (mv : Int64) (mw : Int32) (dr : Int32) (dc : Int32) (ds : Int32) (ru : Int32) (cl : Int32) (os : Int32) (fc : Int32) (pi : Int32) (wh : Int32) (ms : Int64) (aq : Int32) (da : Int32) (lu : Int64) (ld : Int64) (qu : Int64) (qd : Int64) (sx : (Nat → Int32)) (re : (Nat → Int64)) (A : Nat → Prop) : Array Value → State → Outcome → State → Prop := va_Ql (fun (r : Int64) (u : Int32) => r = (f_Model_told nu wt ru aq sx re).1 ∧ u = (f_Model_told nu wt ru aq sx re).2) (fun u t => va_P (dC, dI) vwCl [(oM, .inr (8, [.int u, .ref mT, .int ml, .int ma, .int mk, .int mp, .long mv, .int mw, .ref mN, .ref mD, .ref mF, .ref mS, .ref mL, .ref mR, .ref mE, .ref mK, .ref mV, .int dr, .int dc, .int ds, .int ru, .int cl, .ref mO, .int os, .int fc, .ref mA, .ref mB, .ref mU, .ref mW, .int pi, .int wh, .long ms, .int aq, .int da, .ref mX, .ref mY, .long lu, .long ld, .long qu, .long qd])), (mX, .inl (cI, 12, .inl sx)), (mY, .inl (cJ, 72, .inr (.inl re)))] t.heap ∧ va_D A [(oM, .inr (8, [.int u, .ref mT, .int ml, .int ma, .int mk, .int mp, .long mv, .int mw, .ref mN, .ref mD, .ref mF, .ref mS, .ref mL, .ref mR, .ref mE, .ref mK, .ref mV, .int dr, .int dc, .int ds, .int ru, .int cl, .ref mO, .int os, .int fc, .ref mA, .ref mB, .ref mU, .ref mW, .int pi, .int wh, .long ms, .int aq, .int da, .ref mX, .ref mY, .long lu, .long ld, .long qu, .long qd])), (mX, .inl (cI, 12, .inl sx)), (mY, .inl (cJ, 72, .inr (.inl re)))]) A
set_option maxHeartbeats 4000000 in
set_option maxRecDepth 100000 in
theorem c_Model_told (l : Launch) (dC : Nat → ClassId) (dI : Nat → Nat → Nat) (cB cI cJ : ClassId) (oM mT mN mD mF mS mL mR mE mK mV mO mA mB mU mW mX mY : Nat) (sz : Nat) (nu : Int32) (wt : Int32) (th : Int32) (ml : Int32) (ma : Int32) (mk : Int32) (mp : Int32) (mv : Int64) (mw : Int32) (dr : Int32) (dc : Int32) (ds : Int32) (ru : Int32) (cl : Int32) (os : Int32) (fc : Int32) (pi : Int32) (wh : Int32) (ms : Int64) (aq : Int32) (da : Int32) (lu : Int64) (ld : Int64) (qu : Int64) (qd : Int64) (sx : (Nat → Int32)) (re : (Nat → Int64)) (hr0 : 0 ≤ ru.toInt) (hr : ru.toInt ≤ 12) : Met l y_Model_told (cw_Model_told :: bgw) { frames := 1, cells := 0, slots := 0, locals := 25 } (va_Pc [.ref oM, .int nu, .int wt] (kb_B dC dI cB cI cJ [(oM, .inr (8, [.int th, .ref mT, .int ml, .int ma, .int mk, .int mp, .long mv, .int mw, .ref mN, .ref mD, .ref mF, .ref mS, .ref mL, .ref mR, .ref mE, .ref mK, .ref mV, .int dr, .int dc, .int ds, .int ru, .int cl, .ref mO, .int os, .int fc, .ref mA, .ref mB, .ref mU, .ref mW, .int pi, .int wh, .long ms, .int aq, .int da, .ref mX, .ref mY, .long lu, .long ld, .long qu, .long qd])), (mX, .inl (cI, 12, .inl sx)), (mY, .inl (cJ, 72, .inr (.inl re)))] sz)) (q_Model_told dC dI cB cI cJ oM mT mN mD mF mS mL mR mE mK mV mO mA mB mU mW mX mY nu wt th ml ma mk mp mv mw dr dc ds ru cl os fc pi wh ms aq da lu ld qu qd sx re (va_A [(oM, .inr (8, [.int th, .ref mT, .int ml, .int ma, .int mk, .int mp, .long mv, .int mw, .ref mN, .ref mD, .ref mF, .ref mS, .ref mL, .ref mR, .ref mE, .ref mK, .ref mV, .int dr, .int dc, .int ds, .int ru, .int cl, .ref mO, .int os, .int fc, .ref mA, .ref mB, .ref mU, .ref mW, .int pi, .int wh, .long ms, .int aq, .int da, .ref mX, .ref mY, .long lu, .long ld, .long qu, .long qd])), (mX, .inl (cI, 12, .inl sx)), (mY, .inl (cJ, 72, .inr (.inl re)))] sz)) 0 0 (va_A [(oM, .inr (8, [.int th, .ref mT, .int ml, .int ma, .int mk, .int mp, .long mv, .int mw, .ref mN, .ref mD, .ref mF, .ref mS, .ref mL, .ref mR, .ref mE, .ref mK, .ref mV, .int dr, .int dc, .int ds, .int ru, .int cl, .ref mO, .int os, .int fc, .ref mA, .ref mB, .ref mU, .ref mW, .int pi, .int wh, .long ms, .int aq, .int da, .ref mX, .ref mY, .long lu, .long ld, .long qu, .long qd])), (mX, .inl (cI, 12, .inl sx)), (mY, .inl (cJ, 72, .inr (.inl re)))] sz) := by
  refine Met.ofW (cc := prog_10_method_35_code) (maxL := 3) (ret := (some .long)) (by decide) rfl ?_
  intro p e s m args below meth c s₁ B hml hv
  obtain ⟨rfl, hsz, hP, hKx, hD0⟩ := hv
  have hx := B.exec
  have hb := B.bytes
  have hr := B.returns
  have hts := atoms_spec (ws := (cw_Model_told :: bgw)) B.pre
  have hown : s.vm.findClass "PermitRulesModel" = some m.cls := findClass_of_methodNamed B.named
  have hlocks := B.notSynchronized
  have htb := fun (w : Cond) (h : w ∈ bgw) => hts w (List.mem_cons_of_mem _ h)
  have hK := hKx.1
  subst hsz
  have hD := hD0.self (sz := s.heap.size)
  generalize hAe : va_A [(oM, .inr (8, [.int th, .ref mT, .int ml, .int ma, .int mk, .int mp, .long mv, .int mw, .ref mN, .ref mD, .ref mF, .ref mS, .ref mL, .ref mR, .ref mE, .ref mK, .ref mV, .int dr, .int dc, .int ds, .int ru, .int cl, .ref mO, .int os, .int fc, .ref mA, .ref mB, .ref mU, .ref mW, .int pi, .int wh, .long ms, .int aq, .int da, .ref mX, .ref mY, .long lu, .long ld, .long qu, .long qd])), (mX, .inl (cI, 12, .inl sx)), (mY, .inl (cJ, 72, .inr (.inl re)))] s.heap.size = A at hD ⊢
  have hA : ∀ q : Nat, s.heap.size ≤ q → A q := fun q h => by rw [← hAe]; exact Or.inr h
  have hS : va_S A s.heap s.heap [] := va_S.rf
  have hl := lv_entry ([.ref oM, .int nu, .int wt]) (n := 3) (Nat.le_of_ble_eq_true rfl)
  rw [lg_entry_eq]
  generalize (lg_sl ([.ref oM, .int nu, .int wt]) ++ List.replicate (3 - (lg_sl ([.ref oM, .int nu, .int wt])).length) Slot.unset).toArray = ls at hl ⊢
  have hl : lv_has ls 3 [(0, .ref oM), (1, .int nu), (2, .int wt)] := hl
  have hP : va_P (dC, dI) vwCl [(oM, .inr (8, [.int th, .ref mT, .int ml, .int ma, .int mk, .int mp, .long mv, .int mw, .ref mN, .ref mD, .ref mF, .ref mS, .ref mL, .ref mR, .ref mE, .ref mK, .ref mV, .int dr, .int dc, .int ds, .int ru, .int cl, .ref mO, .int os, .int fc, .ref mA, .ref mB, .ref mU, .ref mW, .int pi, .int wh, .long ms, .int aq, .int da, .ref mX, .ref mY, .long lu, .long ld, .long qu, .long qd])), (mX, .inl (cI, 12, .inl sx)), (mY, .inl (cJ, 72, .inr (.inl re)))] s.heap := hP
  have hF : f_Model_told nu wt ru aq sx re = (lt_ (f_Model_in nu.toInt64 0 (ru.toInt64 - 1)) fun z_1 => (if z_1 = 0 then (0, 1) else (lt_ (f_Model_in wt.toInt64 0 6) fun z_4 => (if z_4 = 0 then (0, 1) else (if aq = 0 then (0, 2) else (if wt = 0 then ((sx nu.toNatClampNeg).toInt64, 0) else (re (((6 * nu) + wt) - 1).toNatClampNeg, 0))))))) := rfl
  refine lv_aload_n hx hb d_Model_told_0 rfl (lv_at hl 0 rfl) ?_
  refine lv_iload_n hx hb d_Model_told_1 rfl (lv_at hl 1 rfl) ?_
  refine lv_i2l (v := nu.toInt64) hx hb d_Model_told_2 rfl ?_
  refine lv_lconst (v := 0) hx hb d_Model_told_3 (by decide) ?_
  refine lv_aload_n hx hb d_Model_told_4 rfl (lv_at hl 0 rfl) ?_
  refine va_get (D := (dC, dI)) (ci := 8) (v := .int ru) (C := "PermitRulesModel") (T := T_Model) (N := 40) hx hb htb in_Model hown hK hP 0 rfl rfl 20 (by decide) (htb _ mb_673) (fun _ h9 => h9) rfl d_Model_told_5 ?_
  refine lv_i2l (v := ru.toInt64) hx hb d_Model_told_8 rfl ?_
  refine lv_lconst (v := 1) hx hb d_Model_told_9 (by decide) ?_
  refine lv_lsub hx hb d_Model_told_10 ?_
  have hPc := hP.sub (ws' := []) [] rfl
  have hDc := hD.sub (ws' := []) [] (by decide) rfl
  have hFc := va_free (wc := []) hD hS hA [] rfl
  refine va_calli (va_runS (As := [.long nu.toInt64, .long 0, .long (ru.toInt64 - 1)]) (rest := [.ref oM]) ⟨hx, hb, hml, hown, htb⟩ (c_Model_in l dC dI cB cI cJ  _ nu.toInt64 0 (ru.toInt64 - 1) ) ⟨callB_of 3 htb (gb_all mb_787) rfl rfl rfl (htb _ mb_9) (htb _ mb_785) (by decide +kernel) ⟨Nat.le_of_ble_eq_true rfl, Nat.le_of_ble_eq_true rfl⟩, htb _ mb_786⟩ ⟨kb_blind, kb_at hPc hDc hKx⟩ rfl rfl hl.1 rfl (lv_room (Nat.le_of_ble_eq_true rfl)) d_Model_told_11 ⟨Nat.le_of_ble_eq_true rfl, Nat.le_of_ble_eq_true rfl⟩) hS (fun q _ h => hFc q h) hFc (fun z_1 u t H1 locs ht hvm hw hB hz1 hk1 hS => ?_)
  have hz_1 := hw
  have hF := hF.trans (lt_e hz_1)
  obtain ⟨hP1, hD1⟩ := hB
  rw [ht] at hP1
  obtain ⟨hP, hD⟩ := va_join (wr := [(oM, .inr (8, [.int th, .ref mT, .int ml, .int ma, .int mk, .int mp, .long mv, .int mw, .ref mN, .ref mD, .ref mF, .ref mS, .ref mL, .ref mR, .ref mE, .ref mK, .ref mV, .int dr, .int dc, .int ds, .int ru, .int cl, .ref mO, .int os, .int fc, .ref mA, .ref mB, .ref mU, .ref mW, .int pi, .int wh, .long ms, .int aq, .int da, .ref mX, .ref mY, .long lu, .long ld, .long qu, .long qd])), (mX, .inl (cI, 12, .inl sx)), (mY, .inl (cJ, 72, .inr (.inl re)))]) (w1 := []) hP hD [] [0, 1, 2] rfl rfl (by decide) (by decide) hk1 hFc hP1 hD1
  generalize H1 = H at hP hS ⊢
  have hP : va_P (dC, dI) vwCl [(oM, .inr (8, [.int th, .ref mT, .int ml, .int ma, .int mk, .int mp, .long mv, .int mw, .ref mN, .ref mD, .ref mF, .ref mS, .ref mL, .ref mR, .ref mE, .ref mK, .ref mV, .int dr, .int dc, .int ds, .int ru, .int cl, .ref mO, .int os, .int fc, .ref mA, .ref mB, .ref mU, .ref mW, .int pi, .int wh, .long ms, .int aq, .int da, .ref mX, .ref mY, .long lu, .long ld, .long qu, .long qd])), (mX, .inl (cI, 12, .inl sx)), (mY, .inl (cJ, 72, .inr (.inl re)))] H := hP
  have hD : va_D A [(oM, .inr (8, [.int th, .ref mT, .int ml, .int ma, .int mk, .int mp, .long mv, .int mw, .ref mN, .ref mD, .ref mF, .ref mS, .ref mL, .ref mR, .ref mE, .ref mK, .ref mV, .int dr, .int dc, .int ds, .int ru, .int cl, .ref mO, .int os, .int fc, .ref mA, .ref mB, .ref mU, .ref mW, .int pi, .int wh, .long ms, .int aq, .int da, .ref mX, .ref mY, .long lu, .long ld, .long qu, .long qd])), (mX, .inl (cI, 12, .inl sx)), (mY, .inl (cJ, 72, .inr (.inl re)))] := hD
  refine lv_if_eq (tgt := 29) hx hb d_Model_told_14 (by decide) (fun c_2 => ?_) (fun c_2 => ?_)
  · have hF := hF.trans (if_pos c_2)
    have tc_2 := ti_eq (Eq.refl z_1.toInt) (show (0 : Int32).toInt = 0 by decide) c_2
    refine lv_iconst (v := 1) hx hb d_Model_told_29 (by decide) ?_
    refine lv_goto (tgt := 45) hx hb d_Model_told_30 (by decide) ?_
    refine va_put (D := (dC, dI)) (ci := 8) (v := .int 1) (ty := .int) (C := "PermitRulesModel") (T := T_Model) (N := 40) hx hb htb in_Model ty_Model to_Model nm_Model hown hK hP hD hS 0 rfl rfl 0 (by decide) (htb _ mb_653) (fun _ h9 => h9) rfl (by decide +kernel) rfl rfl (Nat.le_of_ble_eq_true rfl) d_Model_told_45 (fun H locs hP hD hS => ?_)
    have hP : va_P (dC, dI) vwCl [(oM, .inr (8, [.int 1, .ref mT, .int ml, .int ma, .int mk, .int mp, .long mv, .int mw, .ref mN, .ref mD, .ref mF, .ref mS, .ref mL, .ref mR, .ref mE, .ref mK, .ref mV, .int dr, .int dc, .int ds, .int ru, .int cl, .ref mO, .int os, .int fc, .ref mA, .ref mB, .ref mU, .ref mW, .int pi, .int wh, .long ms, .int aq, .int da, .ref mX, .ref mY, .long lu, .long ld, .long qu, .long qd])), (mX, .inl (cI, 12, .inl sx)), (mY, .inl (cJ, 72, .inr (.inl re)))] H := hP
    have hD : va_D A [(oM, .inr (8, [.int 1, .ref mT, .int ml, .int ma, .int mk, .int mp, .long mv, .int mw, .ref mN, .ref mD, .ref mF, .ref mS, .ref mL, .ref mR, .ref mE, .ref mK, .ref mV, .int dr, .int dc, .int ds, .int ru, .int cl, .ref mO, .int os, .int fc, .ref mA, .ref mB, .ref mU, .ref mW, .int pi, .int wh, .long ms, .int aq, .int da, .ref mX, .ref mY, .long lu, .long ld, .long qu, .long qd])), (mX, .inl (cI, 12, .inl sx)), (mY, .inl (cJ, 72, .inr (.inl re)))] := hD
    refine lv_aload_n hx hb d_Model_told_48 rfl (lv_at hl 0 rfl) ?_
    refine va_get (D := (dC, dI)) (ci := 8) (v := .int 1) (C := "PermitRulesModel") (T := T_Model) (N := 40) hx hb htb in_Model hown hK hP 0 rfl rfl 0 (by decide) (htb _ mb_653) (fun _ h9 => h9) rfl d_Model_told_49 ?_
    refine lv_if_le (tgt := 57) hx hb d_Model_told_52 (by decide) (fun c_3 => ?_) (fun c_3 => ?_)
    · exact absurd c_3 (by decide)
    · skip
      refine lv_lconst (v := 0) hx hb d_Model_told_55 (by decide) ?_
      have hP9 := hP.sub (ws' := [(oM, .inr (8, [.int 1, .ref mT, .int ml, .int ma, .int mk, .int mp, .long mv, .int mw, .ref mN, .ref mD, .ref mF, .ref mS, .ref mL, .ref mR, .ref mE, .ref mK, .ref mV, .int dr, .int dc, .int ds, .int ru, .int cl, .ref mO, .int os, .int fc, .ref mA, .ref mB, .ref mU, .ref mW, .int pi, .int wh, .long ms, .int aq, .int da, .ref mX, .ref mY, .long lu, .long ld, .long qu, .long qd])), (mX, .inl (cI, 12, .inl sx)), (mY, .inl (cJ, 72, .inr (.inl re)))]) [0, 1, 2] rfl
      have hD9 := hD.sub (ws' := [(oM, .inr (8, [.int 1, .ref mT, .int ml, .int ma, .int mk, .int mp, .long mv, .int mw, .ref mN, .ref mD, .ref mF, .ref mS, .ref mL, .ref mR, .ref mE, .ref mK, .ref mV, .int dr, .int dc, .int ds, .int ru, .int cl, .ref mO, .int os, .int fc, .ref mA, .ref mB, .ref mU, .ref mW, .int pi, .int wh, .long ms, .int aq, .int da, .ref mX, .ref mY, .long lu, .long ld, .long qu, .long qd])), (mX, .inl (cI, 12, .inl sx)), (mY, .inl (cJ, 72, .inr (.inl re)))]) [0, 1, 2] (by decide) rfl
      exact W.lret (v := (0 : Int64)) hx hb hr (fun t ht hW => ⟨⟨(0 : Int64), 1, rfl, ⟨by rw [hF], by rw [hF]⟩, by rw [ht]; exact hP9, hD9⟩, hS.F ht⟩) hS.2.2 d_Model_told_56
  · have hF := hF.trans (if_neg c_2)
    have tc_2 := ti_ne (Eq.refl z_1.toInt) (show (0 : Int32).toInt = 0 by decide) c_2
    have ec_2 := in_r hz_1 c_2
    refine lv_iload_n hx hb d_Model_told_17 rfl (lv_at hl 2 rfl) ?_
    refine lv_i2l (v := wt.toInt64) hx hb d_Model_told_18 rfl ?_
    refine lv_lconst (v := 0) hx hb d_Model_told_19 (by decide) ?_
    refine lv_ldc2 (v := 6) hx hb hown (htb _ mb_920) d_Model_told_20 ?_
    have hPc := hP.sub (ws' := []) [] rfl
    have hDc := hD.sub (ws' := []) [] (by decide) rfl
    have hFc := va_free (wc := []) hD hS hA [] rfl
    refine va_calli (va_runS (As := [.long wt.toInt64, .long 0, .long 6]) (rest := [.ref oM]) ⟨hx, hb, hml, hown, htb⟩ (c_Model_in l dC dI cB cI cJ  _ wt.toInt64 0 6 ) ⟨callB_of 3 htb (gb_all mb_787) rfl rfl rfl (htb _ mb_9) (htb _ mb_785) (by decide +kernel) ⟨Nat.le_of_ble_eq_true rfl, Nat.le_of_ble_eq_true rfl⟩, htb _ mb_786⟩ ⟨kb_blind, kb_at hPc hDc hKx⟩ rfl rfl hl.1 rfl (lv_room (Nat.le_of_ble_eq_true rfl)) d_Model_told_23 ⟨Nat.le_of_ble_eq_true rfl, Nat.le_of_ble_eq_true rfl⟩) hS (fun q _ h => hFc q h) hFc (fun z_4 u t H1 locs ht hvm hw hB hz1 hk1 hS => ?_)
    have hz_4 := hw
    have hF := hF.trans (lt_e hz_4)
    obtain ⟨hP1, hD1⟩ := hB
    rw [ht] at hP1
    obtain ⟨hP, hD⟩ := va_join (wr := [(oM, .inr (8, [.int th, .ref mT, .int ml, .int ma, .int mk, .int mp, .long mv, .int mw, .ref mN, .ref mD, .ref mF, .ref mS, .ref mL, .ref mR, .ref mE, .ref mK, .ref mV, .int dr, .int dc, .int ds, .int ru, .int cl, .ref mO, .int os, .int fc, .ref mA, .ref mB, .ref mU, .ref mW, .int pi, .int wh, .long ms, .int aq, .int da, .ref mX, .ref mY, .long lu, .long ld, .long qu, .long qd])), (mX, .inl (cI, 12, .inl sx)), (mY, .inl (cJ, 72, .inr (.inl re)))]) (w1 := []) hP hD [] [0, 1, 2] rfl rfl (by decide) (by decide) hk1 hFc hP1 hD1
    generalize H1 = H at hP hS ⊢
    have hP : va_P (dC, dI) vwCl [(oM, .inr (8, [.int th, .ref mT, .int ml, .int ma, .int mk, .int mp, .long mv, .int mw, .ref mN, .ref mD, .ref mF, .ref mS, .ref mL, .ref mR, .ref mE, .ref mK, .ref mV, .int dr, .int dc, .int ds, .int ru, .int cl, .ref mO, .int os, .int fc, .ref mA, .ref mB, .ref mU, .ref mW, .int pi, .int wh, .long ms, .int aq, .int da, .ref mX, .ref mY, .long lu, .long ld, .long qu, .long qd])), (mX, .inl (cI, 12, .inl sx)), (mY, .inl (cJ, 72, .inr (.inl re)))] H := hP
    have hD : va_D A [(oM, .inr (8, [.int th, .ref mT, .int ml, .int ma, .int mk, .int mp, .long mv, .int mw, .ref mN, .ref mD, .ref mF, .ref mS, .ref mL, .ref mR, .ref mE, .ref mK, .ref mV, .int dr, .int dc, .int ds, .int ru, .int cl, .ref mO, .int os, .int fc, .ref mA, .ref mB, .ref mU, .ref mW, .int pi, .int wh, .long ms, .int aq, .int da, .ref mX, .ref mY, .long lu, .long ld, .long qu, .long qd])), (mX, .inl (cI, 12, .inl sx)), (mY, .inl (cJ, 72, .inr (.inl re)))] := hD
    refine lv_if_ne (tgt := 33) hx hb d_Model_told_26 (by decide) (fun c_5 => ?_) (fun c_5 => ?_)
    · have hF := hF.trans (if_neg c_5)
      have tc_5 := ti_ne (Eq.refl z_4.toInt) (show (0 : Int32).toInt = 0 by decide) c_5
      have ec_5 := in_6 hz_4 c_5
      refine lv_aload_n hx hb d_Model_told_33 rfl (lv_at hl 0 rfl) ?_
      refine va_get (D := (dC, dI)) (ci := 8) (v := .int aq) (C := "PermitRulesModel") (T := T_Model) (N := 40) hx hb htb in_Model hown hK hP 0 rfl rfl 32 (by decide) (htb _ mb_685) (fun _ h9 => h9) rfl d_Model_told_34 ?_
      refine lv_if_ne (tgt := 44) hx hb d_Model_told_37 (by decide) (fun c_6 => ?_) (fun c_6 => ?_)
      · have hF := hF.trans (if_neg c_6)
        have tc_6 := ti_ne (Eq.refl aq.toInt) (show (0 : Int32).toInt = 0 by decide) c_6
        refine lv_iconst (v := 0) hx hb d_Model_told_44 (by decide) ?_
        refine va_put (D := (dC, dI)) (ci := 8) (v := .int 0) (ty := .int) (C := "PermitRulesModel") (T := T_Model) (N := 40) hx hb htb in_Model ty_Model to_Model nm_Model hown hK hP hD hS 0 rfl rfl 0 (by decide) (htb _ mb_653) (fun _ h9 => h9) rfl (by decide +kernel) rfl rfl (Nat.le_of_ble_eq_true rfl) d_Model_told_45 (fun H locs hP hD hS => ?_)
        have hP : va_P (dC, dI) vwCl [(oM, .inr (8, [.int 0, .ref mT, .int ml, .int ma, .int mk, .int mp, .long mv, .int mw, .ref mN, .ref mD, .ref mF, .ref mS, .ref mL, .ref mR, .ref mE, .ref mK, .ref mV, .int dr, .int dc, .int ds, .int ru, .int cl, .ref mO, .int os, .int fc, .ref mA, .ref mB, .ref mU, .ref mW, .int pi, .int wh, .long ms, .int aq, .int da, .ref mX, .ref mY, .long lu, .long ld, .long qu, .long qd])), (mX, .inl (cI, 12, .inl sx)), (mY, .inl (cJ, 72, .inr (.inl re)))] H := hP
        have hD : va_D A [(oM, .inr (8, [.int 0, .ref mT, .int ml, .int ma, .int mk, .int mp, .long mv, .int mw, .ref mN, .ref mD, .ref mF, .ref mS, .ref mL, .ref mR, .ref mE, .ref mK, .ref mV, .int dr, .int dc, .int ds, .int ru, .int cl, .ref mO, .int os, .int fc, .ref mA, .ref mB, .ref mU, .ref mW, .int pi, .int wh, .long ms, .int aq, .int da, .ref mX, .ref mY, .long lu, .long ld, .long qu, .long qd])), (mX, .inl (cI, 12, .inl sx)), (mY, .inl (cJ, 72, .inr (.inl re)))] := hD
        refine lv_aload_n hx hb d_Model_told_48 rfl (lv_at hl 0 rfl) ?_
        refine va_get (D := (dC, dI)) (ci := 8) (v := .int 0) (C := "PermitRulesModel") (T := T_Model) (N := 40) hx hb htb in_Model hown hK hP 0 rfl rfl 0 (by decide) (htb _ mb_653) (fun _ h9 => h9) rfl d_Model_told_49 ?_
        refine lv_if_le (tgt := 57) hx hb d_Model_told_52 (by decide) (fun c_7 => ?_) (fun c_7 => ?_)
        · skip
          refine lv_iload_n hx hb d_Model_told_57 rfl (lv_at hl 2 rfl) ?_
          refine lv_if_ne (tgt := 71) hx hb d_Model_told_58 (by decide) (fun c_8 => ?_) (fun c_8 => ?_)
          · have hF := hF.trans (if_neg c_8)
            have tc_8 := ti_ne (Eq.refl wt.toInt) (show (0 : Int32).toInt = 0 by decide) c_8
            refine lv_aload_n hx hb d_Model_told_71 rfl (lv_at hl 0 rfl) ?_
            refine va_get (D := (dC, dI)) (ci := 8) (v := .ref mY) (C := "PermitRulesModel") (T := T_Model) (N := 40) hx hb htb in_Model hown hK hP 0 rfl rfl 35 (by decide) (htb _ mb_688) (fun _ h9 => h9) rfl d_Model_told_72 ?_
            refine lv_bipush (v := 6) hx hb d_Model_told_75 (by decide) ?_
            refine lv_iload_n hx hb d_Model_told_77 rfl (lv_at hl 1 rfl) ?_
            refine lv_imul hx hb d_Model_told_78 ?_
            refine lv_iload_n hx hb d_Model_told_79 rfl (lv_at hl 2 rfl) ?_
            refine lv_iadd hx hb d_Model_told_80 ?_
            refine lv_iconst (v := 1) hx hb d_Model_told_81 (by decide) ?_
            refine lv_isub hx hb d_Model_told_82 ?_
            refine va_lald hx hb hK hP 2 2 rfl rfl (ib_in (oi_subE (oi_addE (oi_mulE (show (6 : Int32).toInt = 6 by decide) (Eq.refl nu.toInt) (by omega) (by omega)) (Eq.refl wt.toInt) (by omega) (by omega)) (show (1 : Int32).toInt = 1 by decide) (by omega) (by omega)) (by omega) (by omega)) d_Model_told_83 ?_
            have hP9 := hP.sub (ws' := [(oM, .inr (8, [.int 0, .ref mT, .int ml, .int ma, .int mk, .int mp, .long mv, .int mw, .ref mN, .ref mD, .ref mF, .ref mS, .ref mL, .ref mR, .ref mE, .ref mK, .ref mV, .int dr, .int dc, .int ds, .int ru, .int cl, .ref mO, .int os, .int fc, .ref mA, .ref mB, .ref mU, .ref mW, .int pi, .int wh, .long ms, .int aq, .int da, .ref mX, .ref mY, .long lu, .long ld, .long qu, .long qd])), (mX, .inl (cI, 12, .inl sx)), (mY, .inl (cJ, 72, .inr (.inl re)))]) [0, 1, 2] rfl
            have hD9 := hD.sub (ws' := [(oM, .inr (8, [.int 0, .ref mT, .int ml, .int ma, .int mk, .int mp, .long mv, .int mw, .ref mN, .ref mD, .ref mF, .ref mS, .ref mL, .ref mR, .ref mE, .ref mK, .ref mV, .int dr, .int dc, .int ds, .int ru, .int cl, .ref mO, .int os, .int fc, .ref mA, .ref mB, .ref mU, .ref mW, .int pi, .int wh, .long ms, .int aq, .int da, .ref mX, .ref mY, .long lu, .long ld, .long qu, .long qd])), (mX, .inl (cI, 12, .inl sx)), (mY, .inl (cJ, 72, .inr (.inl re)))]) [0, 1, 2] (by decide) rfl
            exact W.lret (v := re (((6 * nu) + wt) - 1).toNatClampNeg) hx hb hr (fun t ht hW => ⟨⟨re (((6 * nu) + wt) - 1).toNatClampNeg, 0, rfl, ⟨by rw [hF], by rw [hF]⟩, by rw [ht]; exact hP9, hD9⟩, hS.F ht⟩) hS.2.2 d_Model_told_84
          · have hF := hF.trans (if_pos c_8)
            have tc_8 := ti_eq (Eq.refl wt.toInt) (show (0 : Int32).toInt = 0 by decide) c_8
            refine lv_aload_n hx hb d_Model_told_61 rfl (lv_at hl 0 rfl) ?_
            refine va_get (D := (dC, dI)) (ci := 8) (v := .ref mX) (C := "PermitRulesModel") (T := T_Model) (N := 40) hx hb htb in_Model hown hK hP 0 rfl rfl 34 (by decide) (htb _ mb_687) (fun _ h9 => h9) rfl d_Model_told_62 ?_
            refine lv_iload_n hx hb d_Model_told_65 rfl (lv_at hl 1 rfl) ?_
            refine va_iald hx hb hK hP 1 1 rfl rfl (ib_in (Eq.refl nu.toInt) (by omega) (by omega)) d_Model_told_66 ?_
            refine lv_i2l (v := (sx nu.toNatClampNeg).toInt64) hx hb d_Model_told_67 rfl ?_
            refine lv_goto (tgt := 84) hx hb d_Model_told_68 (by decide) ?_
            have hP9 := hP.sub (ws' := [(oM, .inr (8, [.int 0, .ref mT, .int ml, .int ma, .int mk, .int mp, .long mv, .int mw, .ref mN, .ref mD, .ref mF, .ref mS, .ref mL, .ref mR, .ref mE, .ref mK, .ref mV, .int dr, .int dc, .int ds, .int ru, .int cl, .ref mO, .int os, .int fc, .ref mA, .ref mB, .ref mU, .ref mW, .int pi, .int wh, .long ms, .int aq, .int da, .ref mX, .ref mY, .long lu, .long ld, .long qu, .long qd])), (mX, .inl (cI, 12, .inl sx)), (mY, .inl (cJ, 72, .inr (.inl re)))]) [0, 1, 2] rfl
            have hD9 := hD.sub (ws' := [(oM, .inr (8, [.int 0, .ref mT, .int ml, .int ma, .int mk, .int mp, .long mv, .int mw, .ref mN, .ref mD, .ref mF, .ref mS, .ref mL, .ref mR, .ref mE, .ref mK, .ref mV, .int dr, .int dc, .int ds, .int ru, .int cl, .ref mO, .int os, .int fc, .ref mA, .ref mB, .ref mU, .ref mW, .int pi, .int wh, .long ms, .int aq, .int da, .ref mX, .ref mY, .long lu, .long ld, .long qu, .long qd])), (mX, .inl (cI, 12, .inl sx)), (mY, .inl (cJ, 72, .inr (.inl re)))]) [0, 1, 2] (by decide) rfl
            exact W.lret (v := (sx nu.toNatClampNeg).toInt64) hx hb hr (fun t ht hW => ⟨⟨(sx nu.toNatClampNeg).toInt64, 0, rfl, ⟨by rw [hF], by rw [hF]⟩, by rw [ht]; exact hP9, hD9⟩, hS.F ht⟩) hS.2.2 d_Model_told_84
        · exact absurd (by decide) c_7
      · have hF := hF.trans (if_pos c_6)
        have tc_6 := ti_eq (Eq.refl aq.toInt) (show (0 : Int32).toInt = 0 by decide) c_6
        refine lv_iconst (v := 2) hx hb d_Model_told_40 (by decide) ?_
        refine lv_goto (tgt := 45) hx hb d_Model_told_41 (by decide) ?_
        refine va_put (D := (dC, dI)) (ci := 8) (v := .int 2) (ty := .int) (C := "PermitRulesModel") (T := T_Model) (N := 40) hx hb htb in_Model ty_Model to_Model nm_Model hown hK hP hD hS 0 rfl rfl 0 (by decide) (htb _ mb_653) (fun _ h9 => h9) rfl (by decide +kernel) rfl rfl (Nat.le_of_ble_eq_true rfl) d_Model_told_45 (fun H locs hP hD hS => ?_)
        have hP : va_P (dC, dI) vwCl [(oM, .inr (8, [.int 2, .ref mT, .int ml, .int ma, .int mk, .int mp, .long mv, .int mw, .ref mN, .ref mD, .ref mF, .ref mS, .ref mL, .ref mR, .ref mE, .ref mK, .ref mV, .int dr, .int dc, .int ds, .int ru, .int cl, .ref mO, .int os, .int fc, .ref mA, .ref mB, .ref mU, .ref mW, .int pi, .int wh, .long ms, .int aq, .int da, .ref mX, .ref mY, .long lu, .long ld, .long qu, .long qd])), (mX, .inl (cI, 12, .inl sx)), (mY, .inl (cJ, 72, .inr (.inl re)))] H := hP
        have hD : va_D A [(oM, .inr (8, [.int 2, .ref mT, .int ml, .int ma, .int mk, .int mp, .long mv, .int mw, .ref mN, .ref mD, .ref mF, .ref mS, .ref mL, .ref mR, .ref mE, .ref mK, .ref mV, .int dr, .int dc, .int ds, .int ru, .int cl, .ref mO, .int os, .int fc, .ref mA, .ref mB, .ref mU, .ref mW, .int pi, .int wh, .long ms, .int aq, .int da, .ref mX, .ref mY, .long lu, .long ld, .long qu, .long qd])), (mX, .inl (cI, 12, .inl sx)), (mY, .inl (cJ, 72, .inr (.inl re)))] := hD
        refine lv_aload_n hx hb d_Model_told_48 rfl (lv_at hl 0 rfl) ?_
        refine va_get (D := (dC, dI)) (ci := 8) (v := .int 2) (C := "PermitRulesModel") (T := T_Model) (N := 40) hx hb htb in_Model hown hK hP 0 rfl rfl 0 (by decide) (htb _ mb_653) (fun _ h9 => h9) rfl d_Model_told_49 ?_
        refine lv_if_le (tgt := 57) hx hb d_Model_told_52 (by decide) (fun c_9 => ?_) (fun c_9 => ?_)
        · exact absurd c_9 (by decide)
        · skip
          refine lv_lconst (v := 0) hx hb d_Model_told_55 (by decide) ?_
          have hP9 := hP.sub (ws' := [(oM, .inr (8, [.int 2, .ref mT, .int ml, .int ma, .int mk, .int mp, .long mv, .int mw, .ref mN, .ref mD, .ref mF, .ref mS, .ref mL, .ref mR, .ref mE, .ref mK, .ref mV, .int dr, .int dc, .int ds, .int ru, .int cl, .ref mO, .int os, .int fc, .ref mA, .ref mB, .ref mU, .ref mW, .int pi, .int wh, .long ms, .int aq, .int da, .ref mX, .ref mY, .long lu, .long ld, .long qu, .long qd])), (mX, .inl (cI, 12, .inl sx)), (mY, .inl (cJ, 72, .inr (.inl re)))]) [0, 1, 2] rfl
          have hD9 := hD.sub (ws' := [(oM, .inr (8, [.int 2, .ref mT, .int ml, .int ma, .int mk, .int mp, .long mv, .int mw, .ref mN, .ref mD, .ref mF, .ref mS, .ref mL, .ref mR, .ref mE, .ref mK, .ref mV, .int dr, .int dc, .int ds, .int ru, .int cl, .ref mO, .int os, .int fc, .ref mA, .ref mB, .ref mU, .ref mW, .int pi, .int wh, .long ms, .int aq, .int da, .ref mX, .ref mY, .long lu, .long ld, .long qu, .long qd])), (mX, .inl (cI, 12, .inl sx)), (mY, .inl (cJ, 72, .inr (.inl re)))]) [0, 1, 2] (by decide) rfl
          exact W.lret (v := (0 : Int64)) hx hb hr (fun t ht hW => ⟨⟨(0 : Int64), 2, rfl, ⟨by rw [hF], by rw [hF]⟩, by rw [ht]; exact hP9, hD9⟩, hS.F ht⟩) hS.2.2 d_Model_told_56
    · have hF := hF.trans (if_pos c_5)
      have tc_5 := ti_eq (Eq.refl z_4.toInt) (show (0 : Int32).toInt = 0 by decide) c_5
      refine lv_iconst (v := 1) hx hb d_Model_told_29 (by decide) ?_
      refine lv_goto (tgt := 45) hx hb d_Model_told_30 (by decide) ?_
      refine va_put (D := (dC, dI)) (ci := 8) (v := .int 1) (ty := .int) (C := "PermitRulesModel") (T := T_Model) (N := 40) hx hb htb in_Model ty_Model to_Model nm_Model hown hK hP hD hS 0 rfl rfl 0 (by decide) (htb _ mb_653) (fun _ h9 => h9) rfl (by decide +kernel) rfl rfl (Nat.le_of_ble_eq_true rfl) d_Model_told_45 (fun H locs hP hD hS => ?_)
      have hP : va_P (dC, dI) vwCl [(oM, .inr (8, [.int 1, .ref mT, .int ml, .int ma, .int mk, .int mp, .long mv, .int mw, .ref mN, .ref mD, .ref mF, .ref mS, .ref mL, .ref mR, .ref mE, .ref mK, .ref mV, .int dr, .int dc, .int ds, .int ru, .int cl, .ref mO, .int os, .int fc, .ref mA, .ref mB, .ref mU, .ref mW, .int pi, .int wh, .long ms, .int aq, .int da, .ref mX, .ref mY, .long lu, .long ld, .long qu, .long qd])), (mX, .inl (cI, 12, .inl sx)), (mY, .inl (cJ, 72, .inr (.inl re)))] H := hP
      have hD : va_D A [(oM, .inr (8, [.int 1, .ref mT, .int ml, .int ma, .int mk, .int mp, .long mv, .int mw, .ref mN, .ref mD, .ref mF, .ref mS, .ref mL, .ref mR, .ref mE, .ref mK, .ref mV, .int dr, .int dc, .int ds, .int ru, .int cl, .ref mO, .int os, .int fc, .ref mA, .ref mB, .ref mU, .ref mW, .int pi, .int wh, .long ms, .int aq, .int da, .ref mX, .ref mY, .long lu, .long ld, .long qu, .long qd])), (mX, .inl (cI, 12, .inl sx)), (mY, .inl (cJ, 72, .inr (.inl re)))] := hD
      refine lv_aload_n hx hb d_Model_told_48 rfl (lv_at hl 0 rfl) ?_
      refine va_get (D := (dC, dI)) (ci := 8) (v := .int 1) (C := "PermitRulesModel") (T := T_Model) (N := 40) hx hb htb in_Model hown hK hP 0 rfl rfl 0 (by decide) (htb _ mb_653) (fun _ h9 => h9) rfl d_Model_told_49 ?_
      refine lv_if_le (tgt := 57) hx hb d_Model_told_52 (by decide) (fun c_10 => ?_) (fun c_10 => ?_)
      · exact absurd c_10 (by decide)
      · skip
        refine lv_lconst (v := 0) hx hb d_Model_told_55 (by decide) ?_
        have hP9 := hP.sub (ws' := [(oM, .inr (8, [.int 1, .ref mT, .int ml, .int ma, .int mk, .int mp, .long mv, .int mw, .ref mN, .ref mD, .ref mF, .ref mS, .ref mL, .ref mR, .ref mE, .ref mK, .ref mV, .int dr, .int dc, .int ds, .int ru, .int cl, .ref mO, .int os, .int fc, .ref mA, .ref mB, .ref mU, .ref mW, .int pi, .int wh, .long ms, .int aq, .int da, .ref mX, .ref mY, .long lu, .long ld, .long qu, .long qd])), (mX, .inl (cI, 12, .inl sx)), (mY, .inl (cJ, 72, .inr (.inl re)))]) [0, 1, 2] rfl
        have hD9 := hD.sub (ws' := [(oM, .inr (8, [.int 1, .ref mT, .int ml, .int ma, .int mk, .int mp, .long mv, .int mw, .ref mN, .ref mD, .ref mF, .ref mS, .ref mL, .ref mR, .ref mE, .ref mK, .ref mV, .int dr, .int dc, .int ds, .int ru, .int cl, .ref mO, .int os, .int fc, .ref mA, .ref mB, .ref mU, .ref mW, .int pi, .int wh, .long ms, .int aq, .int da, .ref mX, .ref mY, .long lu, .long ld, .long qu, .long qd])), (mX, .inl (cI, 12, .inl sx)), (mY, .inl (cJ, 72, .inr (.inl re)))]) [0, 1, 2] (by decide) rfl
        exact W.lret (v := (0 : Int64)) hx hb hr (fun t ht hW => ⟨⟨(0 : Int64), 1, rfl, ⟨by rw [hF], by rw [hF]⟩, by rw [ht]; exact hP9, hD9⟩, hS.F ht⟩) hS.2.2 d_Model_told_56
def f_Model_broken_L28 (k_ : Int32) (ru : Int32) (aq : Int32) (sx : (Nat → Int32)) : Nat → Int32 → Int32 → Int32 → Int32 × Int32
  | 0, _, _, _ => (0, 0)
  | n + 1, r, n_, xt => (if ru ≤ r then (if xt ≤ 0 then ((-1), xt) else (0, xt)) else (if xt = 0 then (if (sx r.toNatClampNeg) = 1 then (if n_ = k_ then (r, xt) else (f_Model_broken_L28 k_ ru aq sx n (r + 1) (n_ + 1) xt)) else (f_Model_broken_L28 k_ ru aq sx n (r + 1) n_ xt)) else (if xt ≤ 0 then ((-1), xt) else (0, xt))))
theorem f_Model_broken_L28_s (k_ : Int32) (ru : Int32) (aq : Int32) (sx : (Nat → Int32)) (n : Nat) (r : Int32) (n_ : Int32) (xt : Int32) : f_Model_broken_L28 k_ ru aq sx (n + 1) r n_ xt = (if ru ≤ r then (if xt ≤ 0 then ((-1), xt) else (0, xt)) else (if xt = 0 then (if (sx r.toNatClampNeg) = 1 then (if n_ = k_ then (r, xt) else (f_Model_broken_L28 k_ ru aq sx n (r + 1) (n_ + 1) xt)) else (f_Model_broken_L28 k_ ru aq sx n (r + 1) n_ xt)) else (if xt ≤ 0 then ((-1), xt) else (0, xt)))) := rfl
def f_Model_broken (k_ : Int32) (ru : Int32) (aq : Int32) (sx : (Nat → Int32)) : Int32 × Int32 := (if 0 ≤ k_ then (if aq = 0 then (f_Model_broken_L28 k_ ru aq sx (ru.toInt.toNat + 1) 0 0 2) else (f_Model_broken_L28 k_ ru aq sx (ru.toInt.toNat + 1) 0 0 0)) else (f_Model_broken_L28 k_ ru aq sx (ru.toInt.toNat + 1) 0 0 1))
abbrev q_Model_broken (dC : Nat → ClassId) (dI : Nat → Nat → Nat) (cB cI cJ : ClassId) (oM mT mN mD mF mS mL mR mE mK mV mO mA mB mU mW mX mY : Nat) (k_ : Int32) (th : Int32) (ml : Int32) (ma : Int32) (mk : Int32) (mp : Int32) (mv : Int64) (mw : Int32) (dr : Int32) (dc : Int32) (ds : Int32) (ru : Int32) (cl : Int32) (os : Int32) (fc : Int32) (pi : Int32) (wh : Int32) (ms : Int64) (aq : Int32) (da : Int32) (lu : Int64) (ld : Int64) (qu : Int64) (qd : Int64) (sx : (Nat → Int32)) (A : Nat → Prop) : Array Value → State → Outcome → State → Prop := va_Qi (fun (r : Int32) (u : Int32) => r = (f_Model_broken k_ ru aq sx).1 ∧ u = (f_Model_broken k_ ru aq sx).2) (fun u t => va_P (dC, dI) vwCl [(oM, .inr (8, [.int u, .ref mT, .int ml, .int ma, .int mk, .int mp, .long mv, .int mw, .ref mN, .ref mD, .ref mF, .ref mS, .ref mL, .ref mR, .ref mE, .ref mK, .ref mV, .int dr, .int dc, .int ds, .int ru, .int cl, .ref mO, .int os, .int fc, .ref mA, .ref mB, .ref mU, .ref mW, .int pi, .int wh, .long ms, .int aq, .int da, .ref mX, .ref mY, .long lu, .long ld, .long qu, .long qd])), (mX, .inl (cI, 12, .inl sx))] t.heap ∧ va_D A [(oM, .inr (8, [.int u, .ref mT, .int ml, .int ma, .int mk, .int mp, .long mv, .int mw, .ref mN, .ref mD, .ref mF, .ref mS, .ref mL, .ref mR, .ref mE, .ref mK, .ref mV, .int dr, .int dc, .int ds, .int ru, .int cl, .ref mO, .int os, .int fc, .ref mA, .ref mB, .ref mU, .ref mW, .int pi, .int wh, .long ms, .int aq, .int da, .ref mX, .ref mY, .long lu, .long ld, .long qu, .long qd])), (mX, .inl (cI, 12, .inl sx))]) A
set_option maxHeartbeats 4000000 in
set_option maxRecDepth 100000 in
theorem c_Model_broken (l : Launch) (dC : Nat → ClassId) (dI : Nat → Nat → Nat) (cB cI cJ : ClassId) (oM mT mN mD mF mS mL mR mE mK mV mO mA mB mU mW mX mY : Nat) (sz : Nat) (k_ : Int32) (th : Int32) (ml : Int32) (ma : Int32) (mk : Int32) (mp : Int32) (mv : Int64) (mw : Int32) (dr : Int32) (dc : Int32) (ds : Int32) (ru : Int32) (cl : Int32) (os : Int32) (fc : Int32) (pi : Int32) (wh : Int32) (ms : Int64) (aq : Int32) (da : Int32) (lu : Int64) (ld : Int64) (qu : Int64) (qd : Int64) (sx : (Nat → Int32)) (hr0 : 0 ≤ ru.toInt) (hr : ru.toInt ≤ 12) : Met l y_Model_broken (cw_Model_broken :: bgw) { frames := 0, cells := 0, slots := 0, locals := 0 } (va_Pc [.ref oM, .int k_] (kb_B dC dI cB cI cJ [(oM, .inr (8, [.int th, .ref mT, .int ml, .int ma, .int mk, .int mp, .long mv, .int mw, .ref mN, .ref mD, .ref mF, .ref mS, .ref mL, .ref mR, .ref mE, .ref mK, .ref mV, .int dr, .int dc, .int ds, .int ru, .int cl, .ref mO, .int os, .int fc, .ref mA, .ref mB, .ref mU, .ref mW, .int pi, .int wh, .long ms, .int aq, .int da, .ref mX, .ref mY, .long lu, .long ld, .long qu, .long qd])), (mX, .inl (cI, 12, .inl sx))] sz)) (q_Model_broken dC dI cB cI cJ oM mT mN mD mF mS mL mR mE mK mV mO mA mB mU mW mX mY k_ th ml ma mk mp mv mw dr dc ds ru cl os fc pi wh ms aq da lu ld qu qd sx (va_A [(oM, .inr (8, [.int th, .ref mT, .int ml, .int ma, .int mk, .int mp, .long mv, .int mw, .ref mN, .ref mD, .ref mF, .ref mS, .ref mL, .ref mR, .ref mE, .ref mK, .ref mV, .int dr, .int dc, .int ds, .int ru, .int cl, .ref mO, .int os, .int fc, .ref mA, .ref mB, .ref mU, .ref mW, .int pi, .int wh, .long ms, .int aq, .int da, .ref mX, .ref mY, .long lu, .long ld, .long qu, .long qd])), (mX, .inl (cI, 12, .inl sx))] sz)) 0 0 (va_A [(oM, .inr (8, [.int th, .ref mT, .int ml, .int ma, .int mk, .int mp, .long mv, .int mw, .ref mN, .ref mD, .ref mF, .ref mS, .ref mL, .ref mR, .ref mE, .ref mK, .ref mV, .int dr, .int dc, .int ds, .int ru, .int cl, .ref mO, .int os, .int fc, .ref mA, .ref mB, .ref mU, .ref mW, .int pi, .int wh, .long ms, .int aq, .int da, .ref mX, .ref mY, .long lu, .long ld, .long qu, .long qd])), (mX, .inl (cI, 12, .inl sx))] sz) := by
  refine Met.ofW (cc := prog_10_method_36_code) (maxL := 4) (ret := (some .int)) (by decide) rfl ?_
  intro p e s m args below meth c s₁ B hml hv
  obtain ⟨rfl, hsz, hP, hKx, hD0⟩ := hv
  have hx := B.exec
  have hb := B.bytes
  have hr := B.returns
  have hts := atoms_spec (ws := (cw_Model_broken :: bgw)) B.pre
  have hown : s.vm.findClass "PermitRulesModel" = some m.cls := findClass_of_methodNamed B.named
  have hlocks := B.notSynchronized
  have htb := fun (w : Cond) (h : w ∈ bgw) => hts w (List.mem_cons_of_mem _ h)
  have hK := hKx.1
  subst hsz
  have hD := hD0.self (sz := s.heap.size)
  generalize hAe : va_A [(oM, .inr (8, [.int th, .ref mT, .int ml, .int ma, .int mk, .int mp, .long mv, .int mw, .ref mN, .ref mD, .ref mF, .ref mS, .ref mL, .ref mR, .ref mE, .ref mK, .ref mV, .int dr, .int dc, .int ds, .int ru, .int cl, .ref mO, .int os, .int fc, .ref mA, .ref mB, .ref mU, .ref mW, .int pi, .int wh, .long ms, .int aq, .int da, .ref mX, .ref mY, .long lu, .long ld, .long qu, .long qd])), (mX, .inl (cI, 12, .inl sx))] s.heap.size = A at hD ⊢
  have hA : ∀ q : Nat, s.heap.size ≤ q → A q := fun q h => by rw [← hAe]; exact Or.inr h
  have hS : va_S A s.heap s.heap [] := va_S.rf
  have hl := lv_entry ([.ref oM, .int k_]) (n := 4) (Nat.le_of_ble_eq_true rfl)
  rw [lg_entry_eq]
  generalize (lg_sl ([.ref oM, .int k_]) ++ List.replicate (4 - (lg_sl ([.ref oM, .int k_])).length) Slot.unset).toArray = ls at hl ⊢
  have hl : lv_has ls 4 [(0, .ref oM), (1, .int k_)] := hl
  have hP : va_P (dC, dI) vwCl [(oM, .inr (8, [.int th, .ref mT, .int ml, .int ma, .int mk, .int mp, .long mv, .int mw, .ref mN, .ref mD, .ref mF, .ref mS, .ref mL, .ref mR, .ref mE, .ref mK, .ref mV, .int dr, .int dc, .int ds, .int ru, .int cl, .ref mO, .int os, .int fc, .ref mA, .ref mB, .ref mU, .ref mW, .int pi, .int wh, .long ms, .int aq, .int da, .ref mX, .ref mY, .long lu, .long ld, .long qu, .long qd])), (mX, .inl (cI, 12, .inl sx))] s.heap := hP
  have hF : f_Model_broken k_ ru aq sx = (if 0 ≤ k_ then (if aq = 0 then (f_Model_broken_L28 k_ ru aq sx (ru.toInt.toNat + 1) 0 0 2) else (f_Model_broken_L28 k_ ru aq sx (ru.toInt.toNat + 1) 0 0 0)) else (f_Model_broken_L28 k_ ru aq sx (ru.toInt.toNat + 1) 0 0 1)) := rfl
  have lp28 : ∀ (n : Nat) (r : Int32) (n_ : Int32) (xt : Int32), 0 ≤ r.toInt → (ru.toInt - r.toInt).toNat < n → f_Model_broken k_ ru aq sx = f_Model_broken_L28 k_ ru aq sx n r n_ xt → ∀ (H : Heap) (locs : List Loc) (ls : Array Slot), va_P (dC, dI) vwCl [(oM, .inr (8, [.int xt, .ref mT, .int ml, .int ma, .int mk, .int mp, .long mv, .int mw, .ref mN, .ref mD, .ref mF, .ref mS, .ref mL, .ref mR, .ref mE, .ref mK, .ref mV, .int dr, .int dc, .int ds, .int ru, .int cl, .ref mO, .int os, .int fc, .ref mA, .ref mB, .ref mU, .ref mW, .int pi, .int wh, .long ms, .int aq, .int da, .ref mX, .ref mY, .long lu, .long ld, .long qu, .long qd])), (mX, .inl (cI, 12, .inl sx))] H → va_D A [(oM, .inr (8, [.int xt, .ref mT, .int ml, .int ma, .int mk, .int mp, .long mv, .int mw, .ref mN, .ref mD, .ref mF, .ref mS, .ref mL, .ref mR, .ref mE, .ref mK, .ref mV, .int dr, .int dc, .int ds, .int ru, .int cl, .ref mO, .int os, .int fc, .ref mA, .ref mB, .ref mU, .ref mW, .int pi, .int wh, .long ms, .int aq, .int da, .ref mX, .ref mY, .long lu, .long ld, .long qu, .long qd])), (mX, .inl (cI, 12, .inl sx))] → va_S A s.heap H locs → lv_has ls 4 [(3, .int r), (2, .int n_), (0, .ref oM), (1, .int k_)] → W p l e (headSpec (cw_Model_broken :: bgw) { frames := 0, cells := 0, slots := 0, locals := 0 }).room s m ([.ref oM, .int k_] : List Value).toArray below meth c H locs 0 0 (MQ below (q_Model_broken dC dI cB cI cJ oM mT mN mD mF mS mL mR mE mK mV mO mA mB mU mW mX mY k_ th ml ma mk mp mv mw dr dc ds ru cl os fc pi wh ms aq da lu ld qu qd sx A) ([.ref oM, .int k_] : List Value).toArray s 0 0 A) (F0 m 28 ls []) := by
    intro n
    induction n with
    | zero => intro r n_ xt i0 hn; exact absurd hn (Nat.not_lt_zero _)
    | succ n ih =>
      intro r n_ xt i0 hn hF H locs ls hP hD hS hl
      have hF := hF.trans (f_Model_broken_L28_s k_ ru aq sx n r n_ xt)
      refine lv_iload_n hx hb d_Model_broken_28 rfl (lv_at hl 0 rfl) ?_
      refine lv_aload_n hx hb d_Model_broken_29 rfl (lv_at hl 2 rfl) ?_
      refine va_get (D := (dC, dI)) (ci := 8) (v := .int ru) (C := "PermitRulesModel") (T := T_Model) (N := 40) hx hb htb in_Model hown hK hP 0 rfl rfl 20 (by decide) (htb _ mb_673) (fun _ h9 => h9) rfl d_Model_broken_30 ?_
      refine lv_icmp_ge (tgt := 69) hx hb d_Model_broken_33 (by decide) (fun c_3 => ?_) (fun c_3 => ?_)
      · have hF := hF.trans (if_pos c_3)
        have tc_3 := ti_le (Eq.refl ru.toInt) (Eq.refl r.toInt) c_3
        refine lv_aload_n hx hb d_Model_broken_69 rfl (lv_at hl 2 rfl) ?_
        refine va_get (D := (dC, dI)) (ci := 8) (v := .int xt) (C := "PermitRulesModel") (T := T_Model) (N := 40) hx hb htb in_Model hown hK hP 0 rfl rfl 0 (by decide) (htb _ mb_653) (fun _ h9 => h9) rfl d_Model_broken_70 ?_
        refine lv_if_le (tgt := 80) hx hb d_Model_broken_73 (by decide) (fun c_4 => ?_) (fun c_4 => ?_)
        · have hF := hF.trans (if_pos c_4)
          have tc_4 := ti_le (Eq.refl xt.toInt) (show (0 : Int32).toInt = 0 by decide) c_4
          refine lv_iconst (v := (-1)) hx hb d_Model_broken_80 (by decide) ?_
          have hP9 := hP.sub (ws' := [(oM, .inr (8, [.int xt, .ref mT, .int ml, .int ma, .int mk, .int mp, .long mv, .int mw, .ref mN, .ref mD, .ref mF, .ref mS, .ref mL, .ref mR, .ref mE, .ref mK, .ref mV, .int dr, .int dc, .int ds, .int ru, .int cl, .ref mO, .int os, .int fc, .ref mA, .ref mB, .ref mU, .ref mW, .int pi, .int wh, .long ms, .int aq, .int da, .ref mX, .ref mY, .long lu, .long ld, .long qu, .long qd])), (mX, .inl (cI, 12, .inl sx))]) [0, 1] rfl
          have hD9 := hD.sub (ws' := [(oM, .inr (8, [.int xt, .ref mT, .int ml, .int ma, .int mk, .int mp, .long mv, .int mw, .ref mN, .ref mD, .ref mF, .ref mS, .ref mL, .ref mR, .ref mE, .ref mK, .ref mV, .int dr, .int dc, .int ds, .int ru, .int cl, .ref mO, .int os, .int fc, .ref mA, .ref mB, .ref mU, .ref mW, .int pi, .int wh, .long ms, .int aq, .int da, .ref mX, .ref mY, .long lu, .long ld, .long qu, .long qd])), (mX, .inl (cI, 12, .inl sx))]) [0, 1] (by decide) rfl
          exact W.iret (v := ((-1) : Int32)) hx hb hr (fun t ht hW => ⟨⟨((-1) : Int32), xt, rfl, ⟨by rw [hF], by rw [hF]⟩, by rw [ht]; exact hP9, hD9⟩, hS.F ht⟩) hS.2.2 d_Model_broken_81
        · have hF := hF.trans (if_neg c_4)
          have tc_4 := ti_nle (Eq.refl xt.toInt) (show (0 : Int32).toInt = 0 by decide) c_4
          refine lv_iconst (v := 0) hx hb d_Model_broken_76 (by decide) ?_
          refine lv_goto (tgt := 81) hx hb d_Model_broken_77 (by decide) ?_
          have hP9 := hP.sub (ws' := [(oM, .inr (8, [.int xt, .ref mT, .int ml, .int ma, .int mk, .int mp, .long mv, .int mw, .ref mN, .ref mD, .ref mF, .ref mS, .ref mL, .ref mR, .ref mE, .ref mK, .ref mV, .int dr, .int dc, .int ds, .int ru, .int cl, .ref mO, .int os, .int fc, .ref mA, .ref mB, .ref mU, .ref mW, .int pi, .int wh, .long ms, .int aq, .int da, .ref mX, .ref mY, .long lu, .long ld, .long qu, .long qd])), (mX, .inl (cI, 12, .inl sx))]) [0, 1] rfl
          have hD9 := hD.sub (ws' := [(oM, .inr (8, [.int xt, .ref mT, .int ml, .int ma, .int mk, .int mp, .long mv, .int mw, .ref mN, .ref mD, .ref mF, .ref mS, .ref mL, .ref mR, .ref mE, .ref mK, .ref mV, .int dr, .int dc, .int ds, .int ru, .int cl, .ref mO, .int os, .int fc, .ref mA, .ref mB, .ref mU, .ref mW, .int pi, .int wh, .long ms, .int aq, .int da, .ref mX, .ref mY, .long lu, .long ld, .long qu, .long qd])), (mX, .inl (cI, 12, .inl sx))]) [0, 1] (by decide) rfl
          exact W.iret (v := (0 : Int32)) hx hb hr (fun t ht hW => ⟨⟨(0 : Int32), xt, rfl, ⟨by rw [hF], by rw [hF]⟩, by rw [ht]; exact hP9, hD9⟩, hS.F ht⟩) hS.2.2 d_Model_broken_81
      · have hF := hF.trans (if_neg c_3)
        have tc_3 := ti_nle (Eq.refl ru.toInt) (Eq.refl r.toInt) c_3
        refine lv_aload_n hx hb d_Model_broken_36 rfl (lv_at hl 2 rfl) ?_
        refine va_get (D := (dC, dI)) (ci := 8) (v := .int xt) (C := "PermitRulesModel") (T := T_Model) (N := 40) hx hb htb in_Model hown hK hP 0 rfl rfl 0 (by decide) (htb _ mb_653) (fun _ h9 => h9) rfl d_Model_broken_37 ?_
        refine lv_if_ne (tgt := 69) hx hb d_Model_broken_40 (by decide) (fun c_5 => ?_) (fun c_5 => ?_)
        · have hF := hF.trans (if_neg c_5)
          have tc_5 := ti_ne (Eq.refl xt.toInt) (show (0 : Int32).toInt = 0 by decide) c_5
          refine lv_aload_n hx hb d_Model_broken_69 rfl (lv_at hl 2 rfl) ?_
          refine va_get (D := (dC, dI)) (ci := 8) (v := .int xt) (C := "PermitRulesModel") (T := T_Model) (N := 40) hx hb htb in_Model hown hK hP 0 rfl rfl 0 (by decide) (htb _ mb_653) (fun _ h9 => h9) rfl d_Model_broken_70 ?_
          refine lv_if_le (tgt := 80) hx hb d_Model_broken_73 (by decide) (fun c_6 => ?_) (fun c_6 => ?_)
          · have hF := hF.trans (if_pos c_6)
            have tc_6 := ti_le (Eq.refl xt.toInt) (show (0 : Int32).toInt = 0 by decide) c_6
            refine lv_iconst (v := (-1)) hx hb d_Model_broken_80 (by decide) ?_
            have hP9 := hP.sub (ws' := [(oM, .inr (8, [.int xt, .ref mT, .int ml, .int ma, .int mk, .int mp, .long mv, .int mw, .ref mN, .ref mD, .ref mF, .ref mS, .ref mL, .ref mR, .ref mE, .ref mK, .ref mV, .int dr, .int dc, .int ds, .int ru, .int cl, .ref mO, .int os, .int fc, .ref mA, .ref mB, .ref mU, .ref mW, .int pi, .int wh, .long ms, .int aq, .int da, .ref mX, .ref mY, .long lu, .long ld, .long qu, .long qd])), (mX, .inl (cI, 12, .inl sx))]) [0, 1] rfl
            have hD9 := hD.sub (ws' := [(oM, .inr (8, [.int xt, .ref mT, .int ml, .int ma, .int mk, .int mp, .long mv, .int mw, .ref mN, .ref mD, .ref mF, .ref mS, .ref mL, .ref mR, .ref mE, .ref mK, .ref mV, .int dr, .int dc, .int ds, .int ru, .int cl, .ref mO, .int os, .int fc, .ref mA, .ref mB, .ref mU, .ref mW, .int pi, .int wh, .long ms, .int aq, .int da, .ref mX, .ref mY, .long lu, .long ld, .long qu, .long qd])), (mX, .inl (cI, 12, .inl sx))]) [0, 1] (by decide) rfl
            exact W.iret (v := ((-1) : Int32)) hx hb hr (fun t ht hW => ⟨⟨((-1) : Int32), xt, rfl, ⟨by rw [hF], by rw [hF]⟩, by rw [ht]; exact hP9, hD9⟩, hS.F ht⟩) hS.2.2 d_Model_broken_81
          · have hF := hF.trans (if_neg c_6)
            have tc_6 := ti_nle (Eq.refl xt.toInt) (show (0 : Int32).toInt = 0 by decide) c_6
            refine lv_iconst (v := 0) hx hb d_Model_broken_76 (by decide) ?_
            refine lv_goto (tgt := 81) hx hb d_Model_broken_77 (by decide) ?_
            have hP9 := hP.sub (ws' := [(oM, .inr (8, [.int xt, .ref mT, .int ml, .int ma, .int mk, .int mp, .long mv, .int mw, .ref mN, .ref mD, .ref mF, .ref mS, .ref mL, .ref mR, .ref mE, .ref mK, .ref mV, .int dr, .int dc, .int ds, .int ru, .int cl, .ref mO, .int os, .int fc, .ref mA, .ref mB, .ref mU, .ref mW, .int pi, .int wh, .long ms, .int aq, .int da, .ref mX, .ref mY, .long lu, .long ld, .long qu, .long qd])), (mX, .inl (cI, 12, .inl sx))]) [0, 1] rfl
            have hD9 := hD.sub (ws' := [(oM, .inr (8, [.int xt, .ref mT, .int ml, .int ma, .int mk, .int mp, .long mv, .int mw, .ref mN, .ref mD, .ref mF, .ref mS, .ref mL, .ref mR, .ref mE, .ref mK, .ref mV, .int dr, .int dc, .int ds, .int ru, .int cl, .ref mO, .int os, .int fc, .ref mA, .ref mB, .ref mU, .ref mW, .int pi, .int wh, .long ms, .int aq, .int da, .ref mX, .ref mY, .long lu, .long ld, .long qu, .long qd])), (mX, .inl (cI, 12, .inl sx))]) [0, 1] (by decide) rfl
            exact W.iret (v := (0 : Int32)) hx hb hr (fun t ht hW => ⟨⟨(0 : Int32), xt, rfl, ⟨by rw [hF], by rw [hF]⟩, by rw [ht]; exact hP9, hD9⟩, hS.F ht⟩) hS.2.2 d_Model_broken_81
        · have hF := hF.trans (if_pos c_5)
          have tc_5 := ti_eq (Eq.refl xt.toInt) (show (0 : Int32).toInt = 0 by decide) c_5
          refine lv_aload_n hx hb d_Model_broken_43 rfl (lv_at hl 2 rfl) ?_
          refine va_get (D := (dC, dI)) (ci := 8) (v := .ref mX) (C := "PermitRulesModel") (T := T_Model) (N := 40) hx hb htb in_Model hown hK hP 0 rfl rfl 34 (by decide) (htb _ mb_687) (fun _ h9 => h9) rfl d_Model_broken_44 ?_
          refine lv_iload_n hx hb d_Model_broken_47 rfl (lv_at hl 0 rfl) ?_
          refine va_iald hx hb hK hP 1 1 rfl rfl (ib_in (Eq.refl r.toInt) (by omega) (by omega)) d_Model_broken_48 ?_
          refine lv_iconst (v := 1) hx hb d_Model_broken_49 (by decide) ?_
          refine lv_icmp_ne (tgt := 63) hx hb d_Model_broken_50 (by decide) (fun c_7 => ?_) (fun c_7 => ?_)
          · have hF := hF.trans (if_neg c_7)
            have tc_7 := ti_ne (Eq.refl (sx r.toNatClampNeg).toInt) (show (1 : Int32).toInt = 1 by decide) c_7
            refine lv_iinc (v := r + 1) (lv' := [(3, .int (r + 1)), (2, .int n_), (0, .ref oM), (1, .int k_)]) hx hb d_Model_broken_63 hl (k := 0) rfl (by first | rfl | decide) (by decide) rfl (fun ls hl => ?_)
            refine lv_goto (tgt := 28) hx hb d_Model_broken_66 (by decide) ?_
            exact ih (r + 1) n_ xt (by have q0 := (oi_addE (Eq.refl r.toInt) (show (1 : Int32).toInt = 1 by decide) (by omega) (by omega)); omega) (by have q0 := (oi_addE (Eq.refl r.toInt) (show (1 : Int32).toInt = 1 by decide) (by omega) (by omega)); omega) hF _ _ _ (hP.sub [0, 1] rfl) (hD.sub [0, 1] (by decide) rfl) hS (lv_sub hl [0, 1, 2, 3] rfl)
          · have hF := hF.trans (if_pos c_7)
            have tc_7 := ti_eq (Eq.refl (sx r.toNatClampNeg).toInt) (show (1 : Int32).toInt = 1 by decide) c_7
            refine lv_iload_n hx hb d_Model_broken_53 rfl (lv_at hl 1 rfl) ?_
            refine lv_iload_n hx hb d_Model_broken_54 rfl (lv_at hl 3 rfl) ?_
            refine lv_icmp_ne (tgt := 60) hx hb d_Model_broken_55 (by decide) (fun c_8 => ?_) (fun c_8 => ?_)
            · have hF := hF.trans (if_neg c_8)
              have tc_8 := ti_ne (Eq.refl n_.toInt) (Eq.refl k_.toInt) c_8
              refine lv_iinc (v := n_ + 1) (lv' := [(2, .int (n_ + 1)), (3, .int r), (0, .ref oM), (1, .int k_)]) hx hb d_Model_broken_60 hl (k := 1) rfl (by first | rfl | decide) (by decide) rfl (fun ls hl => ?_)
              refine lv_iinc (v := r + 1) (lv' := [(3, .int (r + 1)), (2, .int (n_ + 1)), (0, .ref oM), (1, .int k_)]) hx hb d_Model_broken_63 hl (k := 1) rfl (by first | rfl | decide) (by decide) rfl (fun ls hl => ?_)
              refine lv_goto (tgt := 28) hx hb d_Model_broken_66 (by decide) ?_
              exact ih (r + 1) (n_ + 1) xt (by have q0 := (oi_addE (Eq.refl r.toInt) (show (1 : Int32).toInt = 1 by decide) (by omega) (by omega)); omega) (by have q0 := (oi_addE (Eq.refl r.toInt) (show (1 : Int32).toInt = 1 by decide) (by omega) (by omega)); omega) hF _ _ _ (hP.sub [0, 1] rfl) (hD.sub [0, 1] (by decide) rfl) hS (lv_sub hl [0, 1, 2, 3] rfl)
            · have hF := hF.trans (if_pos c_8)
              have tc_8 := ti_eq (Eq.refl n_.toInt) (Eq.refl k_.toInt) c_8
              refine lv_iload_n hx hb d_Model_broken_58 rfl (lv_at hl 0 rfl) ?_
              have hP9 := hP.sub (ws' := [(oM, .inr (8, [.int xt, .ref mT, .int ml, .int ma, .int mk, .int mp, .long mv, .int mw, .ref mN, .ref mD, .ref mF, .ref mS, .ref mL, .ref mR, .ref mE, .ref mK, .ref mV, .int dr, .int dc, .int ds, .int ru, .int cl, .ref mO, .int os, .int fc, .ref mA, .ref mB, .ref mU, .ref mW, .int pi, .int wh, .long ms, .int aq, .int da, .ref mX, .ref mY, .long lu, .long ld, .long qu, .long qd])), (mX, .inl (cI, 12, .inl sx))]) [0, 1] rfl
              have hD9 := hD.sub (ws' := [(oM, .inr (8, [.int xt, .ref mT, .int ml, .int ma, .int mk, .int mp, .long mv, .int mw, .ref mN, .ref mD, .ref mF, .ref mS, .ref mL, .ref mR, .ref mE, .ref mK, .ref mV, .int dr, .int dc, .int ds, .int ru, .int cl, .ref mO, .int os, .int fc, .ref mA, .ref mB, .ref mU, .ref mW, .int pi, .int wh, .long ms, .int aq, .int da, .ref mX, .ref mY, .long lu, .long ld, .long qu, .long qd])), (mX, .inl (cI, 12, .inl sx))]) [0, 1] (by decide) rfl
              exact W.iret (v := r) hx hb hr (fun t ht hW => ⟨⟨r, xt, rfl, ⟨by rw [hF], by rw [hF]⟩, by rw [ht]; exact hP9, hD9⟩, hS.F ht⟩) hS.2.2 d_Model_broken_59
  refine lv_aload_n hx hb d_Model_broken_0 rfl (lv_at hl 0 rfl) ?_
  refine lv_iload_n hx hb d_Model_broken_1 rfl (lv_at hl 1 rfl) ?_
  refine lv_if_ge (tgt := 9) hx hb d_Model_broken_2 (by decide) (fun c_1 => ?_) (fun c_1 => ?_)
  · have hF := hF.trans (if_pos c_1)
    have tc_1 := ti_le (show (0 : Int32).toInt = 0 by decide) (Eq.refl k_.toInt) c_1
    refine lv_aload_n hx hb d_Model_broken_9 rfl (lv_at hl 0 rfl) ?_
    refine va_get (D := (dC, dI)) (ci := 8) (v := .int aq) (C := "PermitRulesModel") (T := T_Model) (N := 40) hx hb htb in_Model hown hK hP 0 rfl rfl 32 (by decide) (htb _ mb_685) (fun _ h9 => h9) rfl d_Model_broken_10 ?_
    refine lv_if_ne (tgt := 20) hx hb d_Model_broken_13 (by decide) (fun c_2 => ?_) (fun c_2 => ?_)
    · have hF := hF.trans (if_neg c_2)
      have tc_2 := ti_ne (Eq.refl aq.toInt) (show (0 : Int32).toInt = 0 by decide) c_2
      refine lv_iconst (v := 0) hx hb d_Model_broken_20 (by decide) ?_
      refine va_put (D := (dC, dI)) (ci := 8) (v := .int 0) (ty := .int) (C := "PermitRulesModel") (T := T_Model) (N := 40) hx hb htb in_Model ty_Model to_Model nm_Model hown hK hP hD hS 0 rfl rfl 0 (by decide) (htb _ mb_653) (fun _ h9 => h9) rfl (by decide +kernel) rfl rfl (Nat.le_of_ble_eq_true rfl) d_Model_broken_21 (fun H locs hP hD hS => ?_)
      have hP : va_P (dC, dI) vwCl [(oM, .inr (8, [.int 0, .ref mT, .int ml, .int ma, .int mk, .int mp, .long mv, .int mw, .ref mN, .ref mD, .ref mF, .ref mS, .ref mL, .ref mR, .ref mE, .ref mK, .ref mV, .int dr, .int dc, .int ds, .int ru, .int cl, .ref mO, .int os, .int fc, .ref mA, .ref mB, .ref mU, .ref mW, .int pi, .int wh, .long ms, .int aq, .int da, .ref mX, .ref mY, .long lu, .long ld, .long qu, .long qd])), (mX, .inl (cI, 12, .inl sx))] H := hP
      have hD : va_D A [(oM, .inr (8, [.int 0, .ref mT, .int ml, .int ma, .int mk, .int mp, .long mv, .int mw, .ref mN, .ref mD, .ref mF, .ref mS, .ref mL, .ref mR, .ref mE, .ref mK, .ref mV, .int dr, .int dc, .int ds, .int ru, .int cl, .ref mO, .int os, .int fc, .ref mA, .ref mB, .ref mU, .ref mW, .int pi, .int wh, .long ms, .int aq, .int da, .ref mX, .ref mY, .long lu, .long ld, .long qu, .long qd])), (mX, .inl (cI, 12, .inl sx))] := hD
      refine lv_iconst (v := 0) hx hb d_Model_broken_24 (by decide) ?_
      refine lv_istore_n (lv' := [(2, .int 0), (0, .ref oM), (1, .int k_)]) hx hb d_Model_broken_25 rfl hl (by decide) rfl (fun ls hl => ?_)
      refine lv_iconst (v := 0) hx hb d_Model_broken_26 (by decide) ?_
      refine lv_istore_n (lv' := [(3, .int 0), (2, .int 0), (0, .ref oM), (1, .int k_)]) hx hb d_Model_broken_27 rfl hl (by decide) rfl (fun ls hl => ?_)
      exact lp28 (ru.toInt.toNat + 1) 0 0 0 (by have q0 := (show (0 : Int32).toInt = 0 by decide); omega) (by have q0 := (show (0 : Int32).toInt = 0 by decide); omega) hF _ _ _ (hP.sub [0, 1] rfl) (hD.sub [0, 1] (by decide) rfl) hS (lv_sub hl [0, 1, 2, 3] rfl)
    · have hF := hF.trans (if_pos c_2)
      have tc_2 := ti_eq (Eq.refl aq.toInt) (show (0 : Int32).toInt = 0 by decide) c_2
      refine lv_iconst (v := 2) hx hb d_Model_broken_16 (by decide) ?_
      refine lv_goto (tgt := 21) hx hb d_Model_broken_17 (by decide) ?_
      refine va_put (D := (dC, dI)) (ci := 8) (v := .int 2) (ty := .int) (C := "PermitRulesModel") (T := T_Model) (N := 40) hx hb htb in_Model ty_Model to_Model nm_Model hown hK hP hD hS 0 rfl rfl 0 (by decide) (htb _ mb_653) (fun _ h9 => h9) rfl (by decide +kernel) rfl rfl (Nat.le_of_ble_eq_true rfl) d_Model_broken_21 (fun H locs hP hD hS => ?_)
      have hP : va_P (dC, dI) vwCl [(oM, .inr (8, [.int 2, .ref mT, .int ml, .int ma, .int mk, .int mp, .long mv, .int mw, .ref mN, .ref mD, .ref mF, .ref mS, .ref mL, .ref mR, .ref mE, .ref mK, .ref mV, .int dr, .int dc, .int ds, .int ru, .int cl, .ref mO, .int os, .int fc, .ref mA, .ref mB, .ref mU, .ref mW, .int pi, .int wh, .long ms, .int aq, .int da, .ref mX, .ref mY, .long lu, .long ld, .long qu, .long qd])), (mX, .inl (cI, 12, .inl sx))] H := hP
      have hD : va_D A [(oM, .inr (8, [.int 2, .ref mT, .int ml, .int ma, .int mk, .int mp, .long mv, .int mw, .ref mN, .ref mD, .ref mF, .ref mS, .ref mL, .ref mR, .ref mE, .ref mK, .ref mV, .int dr, .int dc, .int ds, .int ru, .int cl, .ref mO, .int os, .int fc, .ref mA, .ref mB, .ref mU, .ref mW, .int pi, .int wh, .long ms, .int aq, .int da, .ref mX, .ref mY, .long lu, .long ld, .long qu, .long qd])), (mX, .inl (cI, 12, .inl sx))] := hD
      refine lv_iconst (v := 0) hx hb d_Model_broken_24 (by decide) ?_
      refine lv_istore_n (lv' := [(2, .int 0), (0, .ref oM), (1, .int k_)]) hx hb d_Model_broken_25 rfl hl (by decide) rfl (fun ls hl => ?_)
      refine lv_iconst (v := 0) hx hb d_Model_broken_26 (by decide) ?_
      refine lv_istore_n (lv' := [(3, .int 0), (2, .int 0), (0, .ref oM), (1, .int k_)]) hx hb d_Model_broken_27 rfl hl (by decide) rfl (fun ls hl => ?_)
      exact lp28 (ru.toInt.toNat + 1) 0 0 2 (by have q0 := (show (0 : Int32).toInt = 0 by decide); omega) (by have q0 := (show (0 : Int32).toInt = 0 by decide); omega) hF _ _ _ (hP.sub [0, 1] rfl) (hD.sub [0, 1] (by decide) rfl) hS (lv_sub hl [0, 1, 2, 3] rfl)
  · have hF := hF.trans (if_neg c_1)
    have tc_1 := ti_nle (show (0 : Int32).toInt = 0 by decide) (Eq.refl k_.toInt) c_1
    refine lv_iconst (v := 1) hx hb d_Model_broken_5 (by decide) ?_
    refine lv_goto (tgt := 21) hx hb d_Model_broken_6 (by decide) ?_
    refine va_put (D := (dC, dI)) (ci := 8) (v := .int 1) (ty := .int) (C := "PermitRulesModel") (T := T_Model) (N := 40) hx hb htb in_Model ty_Model to_Model nm_Model hown hK hP hD hS 0 rfl rfl 0 (by decide) (htb _ mb_653) (fun _ h9 => h9) rfl (by decide +kernel) rfl rfl (Nat.le_of_ble_eq_true rfl) d_Model_broken_21 (fun H locs hP hD hS => ?_)
    have hP : va_P (dC, dI) vwCl [(oM, .inr (8, [.int 1, .ref mT, .int ml, .int ma, .int mk, .int mp, .long mv, .int mw, .ref mN, .ref mD, .ref mF, .ref mS, .ref mL, .ref mR, .ref mE, .ref mK, .ref mV, .int dr, .int dc, .int ds, .int ru, .int cl, .ref mO, .int os, .int fc, .ref mA, .ref mB, .ref mU, .ref mW, .int pi, .int wh, .long ms, .int aq, .int da, .ref mX, .ref mY, .long lu, .long ld, .long qu, .long qd])), (mX, .inl (cI, 12, .inl sx))] H := hP
    have hD : va_D A [(oM, .inr (8, [.int 1, .ref mT, .int ml, .int ma, .int mk, .int mp, .long mv, .int mw, .ref mN, .ref mD, .ref mF, .ref mS, .ref mL, .ref mR, .ref mE, .ref mK, .ref mV, .int dr, .int dc, .int ds, .int ru, .int cl, .ref mO, .int os, .int fc, .ref mA, .ref mB, .ref mU, .ref mW, .int pi, .int wh, .long ms, .int aq, .int da, .ref mX, .ref mY, .long lu, .long ld, .long qu, .long qd])), (mX, .inl (cI, 12, .inl sx))] := hD
    refine lv_iconst (v := 0) hx hb d_Model_broken_24 (by decide) ?_
    refine lv_istore_n (lv' := [(2, .int 0), (0, .ref oM), (1, .int k_)]) hx hb d_Model_broken_25 rfl hl (by decide) rfl (fun ls hl => ?_)
    refine lv_iconst (v := 0) hx hb d_Model_broken_26 (by decide) ?_
    refine lv_istore_n (lv' := [(3, .int 0), (2, .int 0), (0, .ref oM), (1, .int k_)]) hx hb d_Model_broken_27 rfl hl (by decide) rfl (fun ls hl => ?_)
    exact lp28 (ru.toInt.toNat + 1) 0 0 1 (by have q0 := (show (0 : Int32).toInt = 0 by decide); omega) (by have q0 := (show (0 : Int32).toInt = 0 by decide); omega) hF _ _ _ (hP.sub [0, 1] rfl) (hD.sub [0, 1] (by decide) rfl) hS (lv_sub hl [0, 1, 2, 3] rfl)
def f_Model_count (wt : Int32) (ml : Int32) (ru : Int32) (cl : Int32) (fc : Int32) : Int32 × Int32 := (lt_ (f_Model_in wt.toInt64 0 3) fun z_1 => (if z_1 = 0 then (0, 1) else (if wt = 0 then (ml, 0) else (if wt = 1 then (ru, 0) else (if wt = 2 then (fc, 0) else (cl - ru, 0))))))
abbrev q_Model_count (dC : Nat → ClassId) (dI : Nat → Nat → Nat) (cB cI cJ : ClassId) (oM mT mN mD mF mS mL mR mE mK mV mO mA mB mU mW mX mY : Nat) (wt : Int32) (th : Int32) (ml : Int32) (ma : Int32) (mk : Int32) (mp : Int32) (mv : Int64) (mw : Int32) (dr : Int32) (dc : Int32) (ds : Int32) (ru : Int32) (cl : Int32) (os : Int32) (fc : Int32) (pi : Int32) (wh : Int32) (ms : Int64) (aq : Int32) (da : Int32) (lu : Int64) (ld : Int64) (qu : Int64) (qd : Int64) (A : Nat → Prop) : Array Value → State → Outcome → State → Prop := va_Qi (fun (r : Int32) (u : Int32) => r = (f_Model_count wt ml ru cl fc).1 ∧ u = (f_Model_count wt ml ru cl fc).2) (fun u t => va_P (dC, dI) vwCl [(oM, .inr (8, [.int u, .ref mT, .int ml, .int ma, .int mk, .int mp, .long mv, .int mw, .ref mN, .ref mD, .ref mF, .ref mS, .ref mL, .ref mR, .ref mE, .ref mK, .ref mV, .int dr, .int dc, .int ds, .int ru, .int cl, .ref mO, .int os, .int fc, .ref mA, .ref mB, .ref mU, .ref mW, .int pi, .int wh, .long ms, .int aq, .int da, .ref mX, .ref mY, .long lu, .long ld, .long qu, .long qd]))] t.heap ∧ va_D A [(oM, .inr (8, [.int u, .ref mT, .int ml, .int ma, .int mk, .int mp, .long mv, .int mw, .ref mN, .ref mD, .ref mF, .ref mS, .ref mL, .ref mR, .ref mE, .ref mK, .ref mV, .int dr, .int dc, .int ds, .int ru, .int cl, .ref mO, .int os, .int fc, .ref mA, .ref mB, .ref mU, .ref mW, .int pi, .int wh, .long ms, .int aq, .int da, .ref mX, .ref mY, .long lu, .long ld, .long qu, .long qd]))]) A
set_option maxHeartbeats 4000000 in
set_option maxRecDepth 100000 in
theorem c_Model_count (l : Launch) (dC : Nat → ClassId) (dI : Nat → Nat → Nat) (cB cI cJ : ClassId) (oM mT mN mD mF mS mL mR mE mK mV mO mA mB mU mW mX mY : Nat) (sz : Nat) (wt : Int32) (th : Int32) (ml : Int32) (ma : Int32) (mk : Int32) (mp : Int32) (mv : Int64) (mw : Int32) (dr : Int32) (dc : Int32) (ds : Int32) (ru : Int32) (cl : Int32) (os : Int32) (fc : Int32) (pi : Int32) (wh : Int32) (ms : Int64) (aq : Int32) (da : Int32) (lu : Int64) (ld : Int64) (qu : Int64) (qd : Int64) : Met l y_Model_count (cw_Model_count :: bgw) { frames := 1, cells := 0, slots := 0, locals := 25 } (va_Pc [.ref oM, .int wt] (kb_B dC dI cB cI cJ [(oM, .inr (8, [.int th, .ref mT, .int ml, .int ma, .int mk, .int mp, .long mv, .int mw, .ref mN, .ref mD, .ref mF, .ref mS, .ref mL, .ref mR, .ref mE, .ref mK, .ref mV, .int dr, .int dc, .int ds, .int ru, .int cl, .ref mO, .int os, .int fc, .ref mA, .ref mB, .ref mU, .ref mW, .int pi, .int wh, .long ms, .int aq, .int da, .ref mX, .ref mY, .long lu, .long ld, .long qu, .long qd]))] sz)) (q_Model_count dC dI cB cI cJ oM mT mN mD mF mS mL mR mE mK mV mO mA mB mU mW mX mY wt th ml ma mk mp mv mw dr dc ds ru cl os fc pi wh ms aq da lu ld qu qd (va_A [(oM, .inr (8, [.int th, .ref mT, .int ml, .int ma, .int mk, .int mp, .long mv, .int mw, .ref mN, .ref mD, .ref mF, .ref mS, .ref mL, .ref mR, .ref mE, .ref mK, .ref mV, .int dr, .int dc, .int ds, .int ru, .int cl, .ref mO, .int os, .int fc, .ref mA, .ref mB, .ref mU, .ref mW, .int pi, .int wh, .long ms, .int aq, .int da, .ref mX, .ref mY, .long lu, .long ld, .long qu, .long qd]))] sz)) 0 0 (va_A [(oM, .inr (8, [.int th, .ref mT, .int ml, .int ma, .int mk, .int mp, .long mv, .int mw, .ref mN, .ref mD, .ref mF, .ref mS, .ref mL, .ref mR, .ref mE, .ref mK, .ref mV, .int dr, .int dc, .int ds, .int ru, .int cl, .ref mO, .int os, .int fc, .ref mA, .ref mB, .ref mU, .ref mW, .int pi, .int wh, .long ms, .int aq, .int da, .ref mX, .ref mY, .long lu, .long ld, .long qu, .long qd]))] sz) := by
  refine Met.ofW (cc := prog_10_method_38_code) (maxL := 2) (ret := (some .int)) (by decide) rfl ?_
  intro p e s m args below meth c s₁ B hml hv
  obtain ⟨rfl, hsz, hP, hKx, hD0⟩ := hv
  have hx := B.exec
  have hb := B.bytes
  have hr := B.returns
  have hts := atoms_spec (ws := (cw_Model_count :: bgw)) B.pre
  have hown : s.vm.findClass "PermitRulesModel" = some m.cls := findClass_of_methodNamed B.named
  have hlocks := B.notSynchronized
  have htb := fun (w : Cond) (h : w ∈ bgw) => hts w (List.mem_cons_of_mem _ h)
  have hK := hKx.1
  subst hsz
  have hD := hD0.self (sz := s.heap.size)
  generalize hAe : va_A [(oM, .inr (8, [.int th, .ref mT, .int ml, .int ma, .int mk, .int mp, .long mv, .int mw, .ref mN, .ref mD, .ref mF, .ref mS, .ref mL, .ref mR, .ref mE, .ref mK, .ref mV, .int dr, .int dc, .int ds, .int ru, .int cl, .ref mO, .int os, .int fc, .ref mA, .ref mB, .ref mU, .ref mW, .int pi, .int wh, .long ms, .int aq, .int da, .ref mX, .ref mY, .long lu, .long ld, .long qu, .long qd]))] s.heap.size = A at hD ⊢
  have hA : ∀ q : Nat, s.heap.size ≤ q → A q := fun q h => by rw [← hAe]; exact Or.inr h
  have hS : va_S A s.heap s.heap [] := va_S.rf
  have hl := lv_entry ([.ref oM, .int wt]) (n := 2) (Nat.le_of_ble_eq_true rfl)
  rw [lg_entry_eq]
  generalize (lg_sl ([.ref oM, .int wt]) ++ List.replicate (2 - (lg_sl ([.ref oM, .int wt])).length) Slot.unset).toArray = ls at hl ⊢
  have hl : lv_has ls 2 [(0, .ref oM), (1, .int wt)] := hl
  have hP : va_P (dC, dI) vwCl [(oM, .inr (8, [.int th, .ref mT, .int ml, .int ma, .int mk, .int mp, .long mv, .int mw, .ref mN, .ref mD, .ref mF, .ref mS, .ref mL, .ref mR, .ref mE, .ref mK, .ref mV, .int dr, .int dc, .int ds, .int ru, .int cl, .ref mO, .int os, .int fc, .ref mA, .ref mB, .ref mU, .ref mW, .int pi, .int wh, .long ms, .int aq, .int da, .ref mX, .ref mY, .long lu, .long ld, .long qu, .long qd]))] s.heap := hP
  have hF : f_Model_count wt ml ru cl fc = (lt_ (f_Model_in wt.toInt64 0 3) fun z_1 => (if z_1 = 0 then (0, 1) else (if wt = 0 then (ml, 0) else (if wt = 1 then (ru, 0) else (if wt = 2 then (fc, 0) else (cl - ru, 0)))))) := rfl
  refine lv_aload_n hx hb d_Model_count_0 rfl (lv_at hl 0 rfl) ?_
  refine lv_iload_n hx hb d_Model_count_1 rfl (lv_at hl 1 rfl) ?_
  refine lv_i2l (v := wt.toInt64) hx hb d_Model_count_2 rfl ?_
  refine lv_lconst (v := 0) hx hb d_Model_count_3 (by decide) ?_
  refine lv_ldc2 (v := 3) hx hb hown (htb _ mb_934) d_Model_count_4 ?_
  have hPc := hP.sub (ws' := []) [] rfl
  have hDc := hD.sub (ws' := []) [] (by decide) rfl
  have hFc := va_free (wc := []) hD hS hA [] rfl
  refine va_calli (va_runS (As := [.long wt.toInt64, .long 0, .long 3]) (rest := [.ref oM]) ⟨hx, hb, hml, hown, htb⟩ (c_Model_in l dC dI cB cI cJ  _ wt.toInt64 0 3 ) ⟨callB_of 3 htb (gb_all mb_787) rfl rfl rfl (htb _ mb_9) (htb _ mb_785) (by decide +kernel) ⟨Nat.le_of_ble_eq_true rfl, Nat.le_of_ble_eq_true rfl⟩, htb _ mb_786⟩ ⟨kb_blind, kb_at hPc hDc hKx⟩ rfl rfl hl.1 rfl (lv_room (Nat.le_of_ble_eq_true rfl)) d_Model_count_7 ⟨Nat.le_of_ble_eq_true rfl, Nat.le_of_ble_eq_true rfl⟩) hS (fun q _ h => hFc q h) hFc (fun z_1 u t H1 locs ht hvm hw hB hz1 hk1 hS => ?_)
  have hz_1 := hw
  have hF := hF.trans (lt_e hz_1)
  obtain ⟨hP1, hD1⟩ := hB
  rw [ht] at hP1
  obtain ⟨hP, hD⟩ := va_join (wr := [(oM, .inr (8, [.int th, .ref mT, .int ml, .int ma, .int mk, .int mp, .long mv, .int mw, .ref mN, .ref mD, .ref mF, .ref mS, .ref mL, .ref mR, .ref mE, .ref mK, .ref mV, .int dr, .int dc, .int ds, .int ru, .int cl, .ref mO, .int os, .int fc, .ref mA, .ref mB, .ref mU, .ref mW, .int pi, .int wh, .long ms, .int aq, .int da, .ref mX, .ref mY, .long lu, .long ld, .long qu, .long qd]))]) (w1 := []) hP hD [] [0] rfl rfl (by decide) (by decide) hk1 hFc hP1 hD1
  generalize H1 = H at hP hS ⊢
  have hP : va_P (dC, dI) vwCl [(oM, .inr (8, [.int th, .ref mT, .int ml, .int ma, .int mk, .int mp, .long mv, .int mw, .ref mN, .ref mD, .ref mF, .ref mS, .ref mL, .ref mR, .ref mE, .ref mK, .ref mV, .int dr, .int dc, .int ds, .int ru, .int cl, .ref mO, .int os, .int fc, .ref mA, .ref mB, .ref mU, .ref mW, .int pi, .int wh, .long ms, .int aq, .int da, .ref mX, .ref mY, .long lu, .long ld, .long qu, .long qd]))] H := hP
  have hD : va_D A [(oM, .inr (8, [.int th, .ref mT, .int ml, .int ma, .int mk, .int mp, .long mv, .int mw, .ref mN, .ref mD, .ref mF, .ref mS, .ref mL, .ref mR, .ref mE, .ref mK, .ref mV, .int dr, .int dc, .int ds, .int ru, .int cl, .ref mO, .int os, .int fc, .ref mA, .ref mB, .ref mU, .ref mW, .int pi, .int wh, .long ms, .int aq, .int da, .ref mX, .ref mY, .long lu, .long ld, .long qu, .long qd]))] := hD
  refine lv_if_eq (tgt := 17) hx hb d_Model_count_10 (by decide) (fun c_2 => ?_) (fun c_2 => ?_)
  · have hF := hF.trans (if_pos c_2)
    have tc_2 := ti_eq (Eq.refl z_1.toInt) (show (0 : Int32).toInt = 0 by decide) c_2
    refine lv_iconst (v := 1) hx hb d_Model_count_17 (by decide) ?_
    refine va_put (D := (dC, dI)) (ci := 8) (v := .int 1) (ty := .int) (C := "PermitRulesModel") (T := T_Model) (N := 40) hx hb htb in_Model ty_Model to_Model nm_Model hown hK hP hD hS 0 rfl rfl 0 (by decide) (htb _ mb_653) (fun _ h9 => h9) rfl (by decide +kernel) rfl rfl (Nat.le_of_ble_eq_true rfl) d_Model_count_18 (fun H locs hP hD hS => ?_)
    have hP : va_P (dC, dI) vwCl [(oM, .inr (8, [.int 1, .ref mT, .int ml, .int ma, .int mk, .int mp, .long mv, .int mw, .ref mN, .ref mD, .ref mF, .ref mS, .ref mL, .ref mR, .ref mE, .ref mK, .ref mV, .int dr, .int dc, .int ds, .int ru, .int cl, .ref mO, .int os, .int fc, .ref mA, .ref mB, .ref mU, .ref mW, .int pi, .int wh, .long ms, .int aq, .int da, .ref mX, .ref mY, .long lu, .long ld, .long qu, .long qd]))] H := hP
    have hD : va_D A [(oM, .inr (8, [.int 1, .ref mT, .int ml, .int ma, .int mk, .int mp, .long mv, .int mw, .ref mN, .ref mD, .ref mF, .ref mS, .ref mL, .ref mR, .ref mE, .ref mK, .ref mV, .int dr, .int dc, .int ds, .int ru, .int cl, .ref mO, .int os, .int fc, .ref mA, .ref mB, .ref mU, .ref mW, .int pi, .int wh, .long ms, .int aq, .int da, .ref mX, .ref mY, .long lu, .long ld, .long qu, .long qd]))] := hD
    refine lv_aload_n hx hb d_Model_count_21 rfl (lv_at hl 0 rfl) ?_
    refine va_get (D := (dC, dI)) (ci := 8) (v := .int 1) (C := "PermitRulesModel") (T := T_Model) (N := 40) hx hb htb in_Model hown hK hP 0 rfl rfl 0 (by decide) (htb _ mb_653) (fun _ h9 => h9) rfl d_Model_count_22 ?_
    refine lv_if_le (tgt := 32) hx hb d_Model_count_25 (by decide) (fun c_3 => ?_) (fun c_3 => ?_)
    · exact absurd c_3 (by decide)
    · skip
      refine lv_iconst (v := 0) hx hb d_Model_count_28 (by decide) ?_
      refine lv_goto (tgt := 76) hx hb d_Model_count_29 (by decide) ?_
      have hP9 := hP.sub (ws' := [(oM, .inr (8, [.int 1, .ref mT, .int ml, .int ma, .int mk, .int mp, .long mv, .int mw, .ref mN, .ref mD, .ref mF, .ref mS, .ref mL, .ref mR, .ref mE, .ref mK, .ref mV, .int dr, .int dc, .int ds, .int ru, .int cl, .ref mO, .int os, .int fc, .ref mA, .ref mB, .ref mU, .ref mW, .int pi, .int wh, .long ms, .int aq, .int da, .ref mX, .ref mY, .long lu, .long ld, .long qu, .long qd]))]) [0] rfl
      have hD9 := hD.sub (ws' := [(oM, .inr (8, [.int 1, .ref mT, .int ml, .int ma, .int mk, .int mp, .long mv, .int mw, .ref mN, .ref mD, .ref mF, .ref mS, .ref mL, .ref mR, .ref mE, .ref mK, .ref mV, .int dr, .int dc, .int ds, .int ru, .int cl, .ref mO, .int os, .int fc, .ref mA, .ref mB, .ref mU, .ref mW, .int pi, .int wh, .long ms, .int aq, .int da, .ref mX, .ref mY, .long lu, .long ld, .long qu, .long qd]))]) [0] (by decide) rfl
      exact W.iret (v := (0 : Int32)) hx hb hr (fun t ht hW => ⟨⟨(0 : Int32), 1, rfl, ⟨by rw [hF], by rw [hF]⟩, by rw [ht]; exact hP9, hD9⟩, hS.F ht⟩) hS.2.2 d_Model_count_76
  · have hF := hF.trans (if_neg c_2)
    have tc_2 := ti_ne (Eq.refl z_1.toInt) (show (0 : Int32).toInt = 0 by decide) c_2
    refine lv_iconst (v := 0) hx hb d_Model_count_13 (by decide) ?_
    refine lv_goto (tgt := 18) hx hb d_Model_count_14 (by decide) ?_
    refine va_put (D := (dC, dI)) (ci := 8) (v := .int 0) (ty := .int) (C := "PermitRulesModel") (T := T_Model) (N := 40) hx hb htb in_Model ty_Model to_Model nm_Model hown hK hP hD hS 0 rfl rfl 0 (by decide) (htb _ mb_653) (fun _ h9 => h9) rfl (by decide +kernel) rfl rfl (Nat.le_of_ble_eq_true rfl) d_Model_count_18 (fun H locs hP hD hS => ?_)
    have hP : va_P (dC, dI) vwCl [(oM, .inr (8, [.int 0, .ref mT, .int ml, .int ma, .int mk, .int mp, .long mv, .int mw, .ref mN, .ref mD, .ref mF, .ref mS, .ref mL, .ref mR, .ref mE, .ref mK, .ref mV, .int dr, .int dc, .int ds, .int ru, .int cl, .ref mO, .int os, .int fc, .ref mA, .ref mB, .ref mU, .ref mW, .int pi, .int wh, .long ms, .int aq, .int da, .ref mX, .ref mY, .long lu, .long ld, .long qu, .long qd]))] H := hP
    have hD : va_D A [(oM, .inr (8, [.int 0, .ref mT, .int ml, .int ma, .int mk, .int mp, .long mv, .int mw, .ref mN, .ref mD, .ref mF, .ref mS, .ref mL, .ref mR, .ref mE, .ref mK, .ref mV, .int dr, .int dc, .int ds, .int ru, .int cl, .ref mO, .int os, .int fc, .ref mA, .ref mB, .ref mU, .ref mW, .int pi, .int wh, .long ms, .int aq, .int da, .ref mX, .ref mY, .long lu, .long ld, .long qu, .long qd]))] := hD
    refine lv_aload_n hx hb d_Model_count_21 rfl (lv_at hl 0 rfl) ?_
    refine va_get (D := (dC, dI)) (ci := 8) (v := .int 0) (C := "PermitRulesModel") (T := T_Model) (N := 40) hx hb htb in_Model hown hK hP 0 rfl rfl 0 (by decide) (htb _ mb_653) (fun _ h9 => h9) rfl d_Model_count_22 ?_
    refine lv_if_le (tgt := 32) hx hb d_Model_count_25 (by decide) (fun c_4 => ?_) (fun c_4 => ?_)
    · skip
      refine lv_iload_n hx hb d_Model_count_32 rfl (lv_at hl 1 rfl) ?_
      refine lv_if_ne (tgt := 43) hx hb d_Model_count_33 (by decide) (fun c_5 => ?_) (fun c_5 => ?_)
      · have hF := hF.trans (if_neg c_5)
        have tc_5 := ti_ne (Eq.refl wt.toInt) (show (0 : Int32).toInt = 0 by decide) c_5
        refine lv_iload_n hx hb d_Model_count_43 rfl (lv_at hl 1 rfl) ?_
        refine lv_iconst (v := 1) hx hb d_Model_count_44 (by decide) ?_
        refine lv_icmp_ne (tgt := 55) hx hb d_Model_count_45 (by decide) (fun c_6 => ?_) (fun c_6 => ?_)
        · have hF := hF.trans (if_neg c_6)
          have tc_6 := ti_ne (Eq.refl wt.toInt) (show (1 : Int32).toInt = 1 by decide) c_6
          refine lv_iload_n hx hb d_Model_count_55 rfl (lv_at hl 1 rfl) ?_
          refine lv_iconst (v := 2) hx hb d_Model_count_56 (by decide) ?_
          refine lv_icmp_ne (tgt := 67) hx hb d_Model_count_57 (by decide) (fun c_7 => ?_) (fun c_7 => ?_)
          · have hF := hF.trans (if_neg c_7)
            have tc_7 := ti_ne (Eq.refl wt.toInt) (show (2 : Int32).toInt = 2 by decide) c_7
            refine lv_aload_n hx hb d_Model_count_67 rfl (lv_at hl 0 rfl) ?_
            refine va_get (D := (dC, dI)) (ci := 8) (v := .int cl) (C := "PermitRulesModel") (T := T_Model) (N := 40) hx hb htb in_Model hown hK hP 0 rfl rfl 21 (by decide) (htb _ mb_674) (fun _ h9 => h9) rfl d_Model_count_68 ?_
            refine lv_aload_n hx hb d_Model_count_71 rfl (lv_at hl 0 rfl) ?_
            refine va_get (D := (dC, dI)) (ci := 8) (v := .int ru) (C := "PermitRulesModel") (T := T_Model) (N := 40) hx hb htb in_Model hown hK hP 0 rfl rfl 20 (by decide) (htb _ mb_673) (fun _ h9 => h9) rfl d_Model_count_72 ?_
            refine lv_isub hx hb d_Model_count_75 ?_
            have hP9 := hP.sub (ws' := [(oM, .inr (8, [.int 0, .ref mT, .int ml, .int ma, .int mk, .int mp, .long mv, .int mw, .ref mN, .ref mD, .ref mF, .ref mS, .ref mL, .ref mR, .ref mE, .ref mK, .ref mV, .int dr, .int dc, .int ds, .int ru, .int cl, .ref mO, .int os, .int fc, .ref mA, .ref mB, .ref mU, .ref mW, .int pi, .int wh, .long ms, .int aq, .int da, .ref mX, .ref mY, .long lu, .long ld, .long qu, .long qd]))]) [0] rfl
            have hD9 := hD.sub (ws' := [(oM, .inr (8, [.int 0, .ref mT, .int ml, .int ma, .int mk, .int mp, .long mv, .int mw, .ref mN, .ref mD, .ref mF, .ref mS, .ref mL, .ref mR, .ref mE, .ref mK, .ref mV, .int dr, .int dc, .int ds, .int ru, .int cl, .ref mO, .int os, .int fc, .ref mA, .ref mB, .ref mU, .ref mW, .int pi, .int wh, .long ms, .int aq, .int da, .ref mX, .ref mY, .long lu, .long ld, .long qu, .long qd]))]) [0] (by decide) rfl
            exact W.iret (v := cl - ru) hx hb hr (fun t ht hW => ⟨⟨cl - ru, 0, rfl, ⟨by rw [hF], by rw [hF]⟩, by rw [ht]; exact hP9, hD9⟩, hS.F ht⟩) hS.2.2 d_Model_count_76
          · have hF := hF.trans (if_pos c_7)
            have tc_7 := ti_eq (Eq.refl wt.toInt) (show (2 : Int32).toInt = 2 by decide) c_7
            refine lv_aload_n hx hb d_Model_count_60 rfl (lv_at hl 0 rfl) ?_
            refine va_get (D := (dC, dI)) (ci := 8) (v := .int fc) (C := "PermitRulesModel") (T := T_Model) (N := 40) hx hb htb in_Model hown hK hP 0 rfl rfl 24 (by decide) (htb _ mb_677) (fun _ h9 => h9) rfl d_Model_count_61 ?_
            refine lv_goto (tgt := 76) hx hb d_Model_count_64 (by decide) ?_
            have hP9 := hP.sub (ws' := [(oM, .inr (8, [.int 0, .ref mT, .int ml, .int ma, .int mk, .int mp, .long mv, .int mw, .ref mN, .ref mD, .ref mF, .ref mS, .ref mL, .ref mR, .ref mE, .ref mK, .ref mV, .int dr, .int dc, .int ds, .int ru, .int cl, .ref mO, .int os, .int fc, .ref mA, .ref mB, .ref mU, .ref mW, .int pi, .int wh, .long ms, .int aq, .int da, .ref mX, .ref mY, .long lu, .long ld, .long qu, .long qd]))]) [0] rfl
            have hD9 := hD.sub (ws' := [(oM, .inr (8, [.int 0, .ref mT, .int ml, .int ma, .int mk, .int mp, .long mv, .int mw, .ref mN, .ref mD, .ref mF, .ref mS, .ref mL, .ref mR, .ref mE, .ref mK, .ref mV, .int dr, .int dc, .int ds, .int ru, .int cl, .ref mO, .int os, .int fc, .ref mA, .ref mB, .ref mU, .ref mW, .int pi, .int wh, .long ms, .int aq, .int da, .ref mX, .ref mY, .long lu, .long ld, .long qu, .long qd]))]) [0] (by decide) rfl
            exact W.iret (v := fc) hx hb hr (fun t ht hW => ⟨⟨fc, 0, rfl, ⟨by rw [hF], by rw [hF]⟩, by rw [ht]; exact hP9, hD9⟩, hS.F ht⟩) hS.2.2 d_Model_count_76
        · have hF := hF.trans (if_pos c_6)
          have tc_6 := ti_eq (Eq.refl wt.toInt) (show (1 : Int32).toInt = 1 by decide) c_6
          refine lv_aload_n hx hb d_Model_count_48 rfl (lv_at hl 0 rfl) ?_
          refine va_get (D := (dC, dI)) (ci := 8) (v := .int ru) (C := "PermitRulesModel") (T := T_Model) (N := 40) hx hb htb in_Model hown hK hP 0 rfl rfl 20 (by decide) (htb _ mb_673) (fun _ h9 => h9) rfl d_Model_count_49 ?_
          refine lv_goto (tgt := 76) hx hb d_Model_count_52 (by decide) ?_
          have hP9 := hP.sub (ws' := [(oM, .inr (8, [.int 0, .ref mT, .int ml, .int ma, .int mk, .int mp, .long mv, .int mw, .ref mN, .ref mD, .ref mF, .ref mS, .ref mL, .ref mR, .ref mE, .ref mK, .ref mV, .int dr, .int dc, .int ds, .int ru, .int cl, .ref mO, .int os, .int fc, .ref mA, .ref mB, .ref mU, .ref mW, .int pi, .int wh, .long ms, .int aq, .int da, .ref mX, .ref mY, .long lu, .long ld, .long qu, .long qd]))]) [0] rfl
          have hD9 := hD.sub (ws' := [(oM, .inr (8, [.int 0, .ref mT, .int ml, .int ma, .int mk, .int mp, .long mv, .int mw, .ref mN, .ref mD, .ref mF, .ref mS, .ref mL, .ref mR, .ref mE, .ref mK, .ref mV, .int dr, .int dc, .int ds, .int ru, .int cl, .ref mO, .int os, .int fc, .ref mA, .ref mB, .ref mU, .ref mW, .int pi, .int wh, .long ms, .int aq, .int da, .ref mX, .ref mY, .long lu, .long ld, .long qu, .long qd]))]) [0] (by decide) rfl
          exact W.iret (v := ru) hx hb hr (fun t ht hW => ⟨⟨ru, 0, rfl, ⟨by rw [hF], by rw [hF]⟩, by rw [ht]; exact hP9, hD9⟩, hS.F ht⟩) hS.2.2 d_Model_count_76
      · have hF := hF.trans (if_pos c_5)
        have tc_5 := ti_eq (Eq.refl wt.toInt) (show (0 : Int32).toInt = 0 by decide) c_5
        refine lv_aload_n hx hb d_Model_count_36 rfl (lv_at hl 0 rfl) ?_
        refine va_get (D := (dC, dI)) (ci := 8) (v := .int ml) (C := "PermitRulesModel") (T := T_Model) (N := 40) hx hb htb in_Model hown hK hP 0 rfl rfl 2 (by decide) (htb _ mb_655) (fun _ h9 => h9) rfl d_Model_count_37 ?_
        refine lv_goto (tgt := 76) hx hb d_Model_count_40 (by decide) ?_
        have hP9 := hP.sub (ws' := [(oM, .inr (8, [.int 0, .ref mT, .int ml, .int ma, .int mk, .int mp, .long mv, .int mw, .ref mN, .ref mD, .ref mF, .ref mS, .ref mL, .ref mR, .ref mE, .ref mK, .ref mV, .int dr, .int dc, .int ds, .int ru, .int cl, .ref mO, .int os, .int fc, .ref mA, .ref mB, .ref mU, .ref mW, .int pi, .int wh, .long ms, .int aq, .int da, .ref mX, .ref mY, .long lu, .long ld, .long qu, .long qd]))]) [0] rfl
        have hD9 := hD.sub (ws' := [(oM, .inr (8, [.int 0, .ref mT, .int ml, .int ma, .int mk, .int mp, .long mv, .int mw, .ref mN, .ref mD, .ref mF, .ref mS, .ref mL, .ref mR, .ref mE, .ref mK, .ref mV, .int dr, .int dc, .int ds, .int ru, .int cl, .ref mO, .int os, .int fc, .ref mA, .ref mB, .ref mU, .ref mW, .int pi, .int wh, .long ms, .int aq, .int da, .ref mX, .ref mY, .long lu, .long ld, .long qu, .long qd]))]) [0] (by decide) rfl
        exact W.iret (v := ml) hx hb hr (fun t ht hW => ⟨⟨ml, 0, rfl, ⟨by rw [hF], by rw [hF]⟩, by rw [ht]; exact hP9, hD9⟩, hS.F ht⟩) hS.2.2 d_Model_count_76
    · exact absurd (by decide) c_4
