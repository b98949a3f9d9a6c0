theorem sw_out {x : Int32} (n0 : ¬ x = 0) (n1 : ¬ x = 1) (n2 : ¬ x = 2) (n3 : ¬ x = 3) (n4 : ¬ x = 4) (n5 : ¬ x = 5) (n6 : ¬ x = 6) (n7 : ¬ x = 7) (n8 : ¬ x = 8) (n9 : ¬ x = 9) (n10 : ¬ x = 10) : x.toInt < 0 ∨ 10 < x.toInt := by
  by_cases g : x.toInt < 0
  · exact Or.inl g
  refine Or.inr (Int.not_le.mp fun g2 => ?_)
  obtain ⟨n, hn⟩ := Int.eq_ofNat_of_zero_le (Int.not_lt.mp g)
  have hk : n < 11 := by omega
  match n, hk, hn with
  | 0, _, hn => exact n0 (Int32.toInt_inj.mp (hn.trans (by decide)))
  | 1, _, hn => exact n1 (Int32.toInt_inj.mp (hn.trans (by decide)))
  | 2, _, hn => exact n2 (Int32.toInt_inj.mp (hn.trans (by decide)))
  | 3, _, hn => exact n3 (Int32.toInt_inj.mp (hn.trans (by decide)))
  | 4, _, hn => exact n4 (Int32.toInt_inj.mp (hn.trans (by decide)))
  | 5, _, hn => exact n5 (Int32.toInt_inj.mp (hn.trans (by decide)))
  | 6, _, hn => exact n6 (Int32.toInt_inj.mp (hn.trans (by decide)))
  | 7, _, hn => exact n7 (Int32.toInt_inj.mp (hn.trans (by decide)))
  | 8, _, hn => exact n8 (Int32.toInt_inj.mp (hn.trans (by decide)))
  | 9, _, hn => exact n9 (Int32.toInt_inj.mp (hn.trans (by decide)))
  | 10, _, hn => exact n10 (Int32.toInt_inj.mp (hn.trans (by decide)))
  | n + 11, h, _ => exact absurd h (by omega)
set_option maxHeartbeats 8000000 in
set_option maxRecDepth 100000 in
theorem lw_loop {p : Program} {e : Env} {s : State} {m : MethodId} {below : List Frame} {meth : Method} {c : Code} {l : Launch} {b L : Nat} {xs : Nat → Int32} {dC : Nat → ClassId} {dI : Nat → Nat → Nat} {cB cI cJ : ClassId} (hC : LC p l s m c b L xs dC dI cB cI cJ) (hr : meth.sig.returnType = ret) (hlocks : meth.locks = false) : ∀ (n : Nat) (i : Int32), 0 ≤ i.toInt → i.toInt ≤ 2565 → ((L : Int) - i.toInt).toNat < n → LGO p e s m below meth c l b dC dI cB cI cJ (lw_Z below #[Value.ref b] s) 23 i (53 + i.toInt.toNat) (5538 + 2 * i.toInt.toNat) := by
  intro n
  induction n with
  | zero => intro i h0 hi hn; omega
  | succ n ih =>
    intro i h0 hi hn
    have hC1 := hC
    obtain ⟨hx, hb, hml, hown, htb, hKx, hxk, hNT, hX, hbl, hL⟩ := hC1
    have hbA : ¬ va_A [] s.heap.size b := fun q => by rcases q with ⟨k, e9, h9⟩ | h9; simp at h9; omega
    have rc1 : room_1.cells = 601024 := rfl
    have rs1 : room_1.slots = 7293034 := rfl
    have kk : i.toInt + 5 ≤ (L : Int) → LGO p e s m below meth c l b dC dI cB cI cJ (lw_Z below #[Value.ref b] s) 873 i (53 + i.toInt.toNat + 1) (5538 + 2 * i.toInt.toNat + 6) := by
      intro h1 oX oT oD oF oJ aA oB oB2 aT oW aK aP aO aN aV oR aU aL gN gD gC gS gL gR gK gW gN2 gD2 gC2 gS2 gL2 gR2 gK2 gW2 aQ oM mT mN mD mF mS mL mR mE mK mV mO mA mB mU mW mX mY as_ ad tl tf cu wk wp ww fz fn fv js j1 j2 j3 j4 pe wy mi ru rl an rc cc_ sc bn bd bc bs bl br bk bw rc2 cc_2 sc2 bn2 bd2 bc2 bs2 bl2 br2 bk2 bw2 qf th ml ma mk mp mv mw dr dc ds rx cl os fc pi wh ms aq da lu ld qu qd mt nn dd fi sg lf rf ce sk sv op gn gv up dn sx re H locs ls hrel hP hD hS hl
      have i5 : (i + 5).toInt = i.toInt + 5 := oi_addE rfl (by decide) (by omega) (by omega)
      refine lv_iinc (v := i + 5) (lv' := [(4, .int (i + 5)), (3, .ref aQ), (2, .ref oM), (1, .ref oX), (0, .ref b)]) hx hb d_Law_law_873 hl (k := 0) rfl (by first | rfl | decide) (by decide) rfl (fun ls hl => ?_)
      refine lv_goto (tgt := 23) hx hb d_Law_law_876 (by decide) ?_
      refine W.widen (k := 53 + (i + 5).toInt.toNat) (n := 5538 + 2 * (i + 5).toInt.toNat) (by omega) (by omega) ?_
      exact ih (i + 5) (by omega) (by omega) (by omega) oX oT oD oF oJ aA oB oB2 aT oW aK aP aO aN aV oR aU aL gN gD gC gS gL gR gK gW gN2 gD2 gC2 gS2 gL2 gR2 gK2 gW2 aQ oM mT mN mD mF mS mL mR mE mK mV mO mA mB mU mW mX mY as_ ad tl tf cu wk wp ww fz fn fv js j1 j2 j3 j4 pe wy mi ru rl an rc cc_ sc bn bd bc bs bl br bk bw rc2 cc_2 sc2 bn2 bd2 bc2 bs2 bl2 br2 bk2 bw2 qf th ml ma mk mp mv mw dr dc ds rx cl os fc pi wh ms aq da lu ld qu qd mt nn dd fi sg lf rf ce sk sv op gn gv up dn sx re H locs ls hrel hP hD hS hl
    intro oX oT oD oF oJ aA oB oB2 aT oW aK aP aO aN aV oR aU aL gN gD gC gS gL gR gK gW gN2 gD2 gC2 gS2 gL2 gR2 gK2 gW2 aQ oM mT mN mD mF mS mL mR mE mK mV mO mA mB mU mW mX mY as_ ad tl tf cu wk wp ww fz fn fv js j1 j2 j3 j4 pe wy mi ru rl an rc cc_ sc bn bd bc bs bl br bk bw rc2 cc_2 sc2 bn2 bd2 bc2 bs2 bl2 br2 bk2 bw2 qf th ml ma mk mp mv mw dr dc ds rx cl os fc pi wh ms aq da lu ld qu qd mt nn dd fi sg lf rf ce sk sv op gn gv up dn sx re H locs ls hrel hP hD hS hl
    refine lv_iload hx hb d_Law_law_23 (lv_at hl 0 rfl) ?_
    refine lv_aload_n hx hb d_Law_law_25 rfl (lv_at hl 4 rfl) ?_
    refine va_slen hx hb hX hbl hbA hS d_Law_law_26 ?_
    refine lv_iconst (v := 5) hx hb d_Law_law_27 (by decide) ?_
    refine lv_isub hx hb d_Law_law_28 ?_
    have eL : (Int32.ofNat L).toInt = (L : Int) := nI_toInt (by omega)
    have e5 : (Int32.ofNat L - 5).toInt = (L : Int) - 5 := oi_subE eL (by decide) (by omega) (by omega)
    refine lv_icmp_gt (tgt := 879) hx hb d_Law_law_29 (by decide) (fun c1 => ?_) (fun c1 => ?_)
    · refine lv_iconst (v := 1) hx hb d_Law_law_879 (by decide) ?_
      refine va_forget (fun q hq => by rcases hS.2.2 q hq with ⟨k, e9, h9⟩ | h9; simp at h9; exact h9) ?_
      refine W.widen (k := 601024) (n := 7293034) (by omega) (by omega) ?_
      exact lw_ret hx hb hr hlocks d_Law_law_880
    · have h1 : i.toInt + 5 ≤ (L : Int) := by rw [oi_lt, e5] at c1; omega
      refine lv_aload_n hx hb d_Law_law_32 rfl (lv_at hl 4 rfl) ?_
      refine lv_iload hx hb d_Law_law_33 (lv_at hl 0 rfl) ?_
      refine va_sld hx hb hX hbl hbA hS (i := i) (ib_in rfl (by omega) (by omega)) d_Law_law_35 ?_
      refine lv_bipush (v := 15) hx hb d_Law_law_36 (by decide) ?_
      refine lv_iand hx hb d_Law_law_38 ?_
      generalize (xs i.toNatClampNeg) &&& 15 = x9
      by_cases c_0 : x9 = 0
      · refine lv_tableIn (tgt := 96) hx hb d_Law_law_39 (by rw [c_0]; decide) (by rw [c_0]; decide) (by rw [c_0]; rfl) (by decide) ?_
        exact lc_say hC i h0 h1 (by omega) (by omega) (kk h1) oX oT oD oF oJ aA oB oB2 aT oW aK aP aO aN aV oR aU aL gN gD gC gS gL gR gK gW gN2 gD2 gC2 gS2 gL2 gR2 gK2 gW2 aQ oM mT mN mD mF mS mL mR mE mK mV mO mA mB mU mW mX mY as_ ad tl tf cu wk wp ww fz fn fv js j1 j2 j3 j4 pe wy mi ru rl an rc cc_ sc bn bd bc bs bl br bk bw rc2 cc_2 sc2 bn2 bd2 bc2 bs2 bl2 br2 bk2 bw2 qf th ml ma mk mp mv mw dr dc ds rx cl os fc pi wh ms aq da lu ld qu qd mt nn dd fi sg lf rf ce sk sv op gn gv up dn sx re H locs ls hrel hP hD hS hl
      by_cases c_1 : x9 = 1
      · refine lv_tableIn (tgt := 184) hx hb d_Law_law_39 (by rw [c_1]; decide) (by rw [c_1]; decide) (by rw [c_1]; rfl) (by decide) ?_
        exact lc_trim hC i h0 h1 (by omega) (by omega) (kk h1) oX oT oD oF oJ aA oB oB2 aT oW aK aP aO aN aV oR aU aL gN gD gC gS gL gR gK gW gN2 gD2 gC2 gS2 gL2 gR2 gK2 gW2 aQ oM mT mN mD mF mS mL mR mE mK mV mO mA mB mU mW mX mY as_ ad tl tf cu wk wp ww fz fn fv js j1 j2 j3 j4 pe wy mi ru rl an rc cc_ sc bn bd bc bs bl br bk bw rc2 cc_2 sc2 bn2 bd2 bc2 bs2 bl2 br2 bk2 bw2 qf th ml ma mk mp mv mw dr dc ds rx cl os fc pi wh ms aq da lu ld qu qd mt nn dd fi sg lf rf ce sk sv op gn gv up dn sx re H locs ls hrel hP hD hS hl
      by_cases c_2 : x9 = 2
      · refine lv_tableIn (tgt := 240) hx hb d_Law_law_39 (by rw [c_2]; decide) (by rw [c_2]; decide) (by rw [c_2]; rfl) (by decide) ?_
        exact lc_read hC i h0 h1 (by omega) (by omega) (kk h1) oX oT oD oF oJ aA oB oB2 aT oW aK aP aO aN aV oR aU aL gN gD gC gS gL gR gK gW gN2 gD2 gC2 gS2 gL2 gR2 gK2 gW2 aQ oM mT mN mD mF mS mL mR mE mK mV mO mA mB mU mW mX mY as_ ad tl tf cu wk wp ww fz fn fv js j1 j2 j3 j4 pe wy mi ru rl an rc cc_ sc bn bd bc bs bl br bk bw rc2 cc_2 sc2 bn2 bd2 bc2 bs2 bl2 br2 bk2 bw2 qf th ml ma mk mp mv mw dr dc ds rx cl os fc pi wh ms aq da lu ld qu qd mt nn dd fi sg lf rf ce sk sv op gn gv up dn sx re H locs ls hrel hP hD hS hl
      by_cases c_3 : x9 = 3
      · refine lv_tableIn (tgt := 253) hx hb d_Law_law_39 (by rw [c_3]; decide) (by rw [c_3]; decide) (by rw [c_3]; rfl) (by decide) ?_
        exact lc_fact hC i h0 h1 (by omega) (by omega) (kk h1) oX oT oD oF oJ aA oB oB2 aT oW aK aP aO aN aV oR aU aL gN gD gC gS gL gR gK gW gN2 gD2 gC2 gS2 gL2 gR2 gK2 gW2 aQ oM mT mN mD mF mS mL mR mE mK mV mO mA mB mU mW mX mY as_ ad tl tf cu wk wp ww fz fn fv js j1 j2 j3 j4 pe wy mi ru rl an rc cc_ sc bn bd bc bs bl br bk bw rc2 cc_2 sc2 bn2 bd2 bc2 bs2 bl2 br2 bk2 bw2 qf th ml ma mk mp mv mw dr dc ds rx cl os fc pi wh ms aq da lu ld qu qd mt nn dd fi sg lf rf ce sk sv op gn gv up dn sx re H locs ls hrel hP hD hS hl
      by_cases c_4 : x9 = 4
      · refine lv_tableIn (tgt := 352) hx hb d_Law_law_39 (by rw [c_4]; decide) (by rw [c_4]; decide) (by rw [c_4]; rfl) (by decide) ?_
        exact lc_forget hC i h0 h1 (by omega) (by omega) (kk h1) oX oT oD oF oJ aA oB oB2 aT oW aK aP aO aN aV oR aU aL gN gD gC gS gL gR gK gW gN2 gD2 gC2 gS2 gL2 gR2 gK2 gW2 aQ oM mT mN mD mF mS mL mR mE mK mV mO mA mB mU mW mX mY as_ ad tl tf cu wk wp ww fz fn fv js j1 j2 j3 j4 pe wy mi ru rl an rc cc_ sc bn bd bc bs bl br bk bw rc2 cc_2 sc2 bn2 bd2 bc2 bs2 bl2 br2 bk2 bw2 qf th ml ma mk mp mv mw dr dc ds rx cl os fc pi wh ms aq da lu ld qu qd mt nn dd fi sg lf rf ce sk sv op gn gv up dn sx re H locs ls hrel hP hD hS hl
      by_cases c_5 : x9 = 5
      · refine lv_tableIn (tgt := 439) hx hb d_Law_law_39 (by rw [c_5]; decide) (by rw [c_5]; decide) (by rw [c_5]; rfl) (by decide) ?_
        exact lc_run hC i h0 h1 (by omega) (by omega) (kk h1) oX oT oD oF oJ aA oB oB2 aT oW aK aP aO aN aV oR aU aL gN gD gC gS gL gR gK gW gN2 gD2 gC2 gS2 gL2 gR2 gK2 gW2 aQ oM mT mN mD mF mS mL mR mE mK mV mO mA mB mU mW mX mY as_ ad tl tf cu wk wp ww fz fn fv js j1 j2 j3 j4 pe wy mi ru rl an rc cc_ sc bn bd bc bs bl br bk bw rc2 cc_2 sc2 bn2 bd2 bc2 bs2 bl2 br2 bk2 bw2 qf th ml ma mk mp mv mw dr dc ds rx cl os fc pi wh ms aq da lu ld qu qd mt nn dd fi sg lf rf ce sk sv op gn gv up dn sx re H locs ls hrel hP hD hS hl
      by_cases c_6 : x9 = 6
      · refine lv_tableIn (tgt := 495) hx hb d_Law_law_39 (by rw [c_6]; decide) (by rw [c_6]; decide) (by rw [c_6]; rfl) (by decide) ?_
        exact lc_rule hC i h0 h1 (by omega) (by omega) (kk h1) oX oT oD oF oJ aA oB oB2 aT oW aK aP aO aN aV oR aU aL gN gD gC gS gL gR gK gW gN2 gD2 gC2 gS2 gL2 gR2 gK2 gW2 aQ oM mT mN mD mF mS mL mR mE mK mV mO mA mB mU mW mX mY as_ ad tl tf cu wk wp ww fz fn fv js j1 j2 j3 j4 pe wy mi ru rl an rc cc_ sc bn bd bc bs bl br bk bw rc2 cc_2 sc2 bn2 bd2 bc2 bs2 bl2 br2 bk2 bw2 qf th ml ma mk mp mv mw dr dc ds rx cl os fc pi wh ms aq da lu ld qu qd mt nn dd fi sg lf rf ce sk sv op gn gv up dn sx re H locs ls hrel hP hD hS hl
      by_cases c_7 : x9 = 7
      · refine lv_tableIn (tgt := 583) hx hb d_Law_law_39 (by rw [c_7]; decide) (by rw [c_7]; decide) (by rw [c_7]; rfl) (by decide) ?_
        exact lc_told hC i h0 h1 (by omega) (by omega) (kk h1) oX oT oD oF oJ aA oB oB2 aT oW aK aP aO aN aV oR aU aL gN gD gC gS gL gR gK gW gN2 gD2 gC2 gS2 gL2 gR2 gK2 gW2 aQ oM mT mN mD mF mS mL mR mE mK mV mO mA mB mU mW mX mY as_ ad tl tf cu wk wp ww fz fn fv js j1 j2 j3 j4 pe wy mi ru rl an rc cc_ sc bn bd bc bs bl br bk bw rc2 cc_2 sc2 bn2 bd2 bc2 bs2 bl2 br2 bk2 bw2 qf th ml ma mk mp mv mw dr dc ds rx cl os fc pi wh ms aq da lu ld qu qd mt nn dd fi sg lf rf ce sk sv op gn gv up dn sx re H locs ls hrel hP hD hS hl
      by_cases c_8 : x9 = 8
      · refine lv_tableIn (tgt := 650) hx hb d_Law_law_39 (by rw [c_8]; decide) (by rw [c_8]; decide) (by rw [c_8]; rfl) (by decide) ?_
        exact lc_broken hC i h0 h1 (by omega) (by omega) (kk h1) oX oT oD oF oJ aA oB oB2 aT oW aK aP aO aN aV oR aU aL gN gD gC gS gL gR gK gW gN2 gD2 gC2 gS2 gL2 gR2 gK2 gW2 aQ oM mT mN mD mF mS mL mR mE mK mV mO mA mB mU mW mX mY as_ ad tl tf cu wk wp ww fz fn fv js j1 j2 j3 j4 pe wy mi ru rl an rc cc_ sc bn bd bc bs bl br bk bw rc2 cc_2 sc2 bn2 bd2 bc2 bs2 bl2 br2 bk2 bw2 qf th ml ma mk mp mv mw dr dc ds rx cl os fc pi wh ms aq da lu ld qu qd mt nn dd fi sg lf rf ce sk sv op gn gv up dn sx re H locs ls hrel hP hD hS hl
      by_cases c_9 : x9 = 9
      · refine lv_tableIn (tgt := 706) hx hb d_Law_law_39 (by rw [c_9]; decide) (by rw [c_9]; decide) (by rw [c_9]; rfl) (by decide) ?_
        exact lc_suggest hC i h0 h1 (by omega) (by omega) (kk h1) oX oT oD oF oJ aA oB oB2 aT oW aK aP aO aN aV oR aU aL gN gD gC gS gL gR gK gW gN2 gD2 gC2 gS2 gL2 gR2 gK2 gW2 aQ oM mT mN mD mF mS mL mR mE mK mV mO mA mB mU mW mX mY as_ ad tl tf cu wk wp ww fz fn fv js j1 j2 j3 j4 pe wy mi ru rl an rc cc_ sc bn bd bc bs bl br bk bw rc2 cc_2 sc2 bn2 bd2 bc2 bs2 bl2 br2 bk2 bw2 qf th ml ma mk mp mv mw dr dc ds rx cl os fc pi wh ms aq da lu ld qu qd mt nn dd fi sg lf rf ce sk sv op gn gv up dn sx re H locs ls hrel hP hD hS hl
      by_cases c_10 : x9 = 10
      · refine lv_tableIn (tgt := 817) hx hb d_Law_law_39 (by rw [c_10]; decide) (by rw [c_10]; decide) (by rw [c_10]; rfl) (by decide) ?_
        exact lc_count hC i h0 h1 (by omega) (by omega) (kk h1) oX oT oD oF oJ aA oB oB2 aT oW aK aP aO aN aV oR aU aL gN gD gC gS gL gR gK gW gN2 gD2 gC2 gS2 gL2 gR2 gK2 gW2 aQ oM mT mN mD mF mS mL mR mE mK mV mO mA mB mU mW mX mY as_ ad tl tf cu wk wp ww fz fn fv js j1 j2 j3 j4 pe wy mi ru rl an rc cc_ sc bn bd bc bs bl br bk bw rc2 cc_2 sc2 bn2 bd2 bc2 bs2 bl2 br2 bk2 bw2 qf th ml ma mk mp mv mw dr dc ds rx cl os fc pi wh ms aq da lu ld qu qd mt nn dd fi sg lf rf ce sk sv op gn gv up dn sx re H locs ls hrel hP hD hS hl
      refine lv_tableOut (tgt := 873) hx hb d_Law_law_39 (sw_out c_0 c_1 c_2 c_3 c_4 c_5 c_6 c_7 c_8 c_9 c_10) (by decide) ?_
      refine W.widen (k := 53 + i.toInt.toNat + 1) (n := 5538 + 2 * i.toInt.toNat + 6) (by omega) (by omega) ?_
      exact kk h1 oX oT oD oF oJ aA oB oB2 aT oW aK aP aO aN aV oR aU aL gN gD gC gS gL gR gK gW gN2 gD2 gC2 gS2 gL2 gR2 gK2 gW2 aQ oM mT mN mD mF mS mL mR mE mK mV mO mA mB mU mW mX mY as_ ad tl tf cu wk wp ww fz fn fv js j1 j2 j3 j4 pe wy mi ru rl an rc cc_ sc bn bd bc bs bl br bk bw rc2 cc_2 sc2 bn2 bd2 bc2 bs2 bl2 br2 bk2 bw2 qf th ml ma mk mp mv mw dr dc ds rx cl os fc pi wh ms aq da lu ld qu qd mt nn dd fi sg lf rf ce sk sv op gn gv up dn sx re H locs ls hrel hP hD hS hl
theorem lw_loop0 {p : Program} {e : Env} {s : State} {m : MethodId} {below : List Frame} {meth : Method} {c : Code} {l : Launch} {b L : Nat} {xs : Nat → Int32} {dC : Nat → ClassId} {dI : Nat → Nat → Nat} {cB cI cJ : ClassId} (hC : LC p l s m c b L xs dC dI cB cI cJ) (hr : meth.sig.returnType = ret) (hlocks : meth.locks = false) : LGO p e s m below meth c l b dC dI cB cI cJ (lw_Z below #[Value.ref b] s) 23 0 53 5538 := by
  have hL : L ≤ 2560 := hC.2.2.2.2.2.2.2.2.2.2
  have h := lw_loop (e := e) (below := below) hC hr hlocks (L + 1) 0 (by decide) (by decide) (by rw [oi_z, Int.sub_zero]; exact Nat.lt_succ_self _)
  rw [oi_z, show (0 : Int).toNat = 0 from rfl, Nat.mul_zero, Nat.add_zero, Nat.add_zero] at h
  exact h
