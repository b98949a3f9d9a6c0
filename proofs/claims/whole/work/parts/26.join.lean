def f_Reckoner_join (kd : Int32) (pe : Int32) (wy : Int32) (ru : (Nat → Int64)) (rl : (Nat → Int64)) : Int32 × Int32 × (Nat → Int64) × (Nat → Int64) := (lt_ (f_Reckoner_upper pe wy ru) fun z_1 => (lt_ (f_Reckoner_lower pe wy rl) fun z_2 => (if kd = 6 then (if kd = 42 then (lt_ (f_Reckoner_product 0 z_1 wy) fun z_27 => (lt_ (f_Reckoner_product 1 z_2 z_27.2) fun z_28 => (lt_ (f_Reckoner_settle z_27.1 z_28.1 (pe - 1) z_28.2 ru rl) fun z_29 => (z_29.1, z_29.2.1, z_29.2.2.1, z_29.2.2.2)))) else (if kd = 43 then (lt_ (f_Reckoner_product 0 z_2 wy) fun z_22 => (lt_ (f_Reckoner_product z_1 1 z_22.2) fun z_23 => (lt_ (f_Reckoner_sum z_22.1 z_23.1 z_23.2) fun z_24 => (lt_ (f_Reckoner_product 1 z_2 z_24.2) fun z_25 => (lt_ (f_Reckoner_settle z_24.1 z_25.1 (pe - 1) z_25.2 ru rl) fun z_26 => (z_26.1, z_26.2.1, z_26.2.2.1, z_26.2.2.2)))))) else (if kd = 45 then (lt_ (f_Reckoner_product 0 z_2 wy) fun z_7 => (lt_ (f_Reckoner_product z_1 1 z_7.2) fun z_8 => (lt_ (f_Reckoner_difference z_7.1 z_8.1 z_8.2) fun z_9 => (lt_ (f_Reckoner_product 1 z_2 z_9.2) fun z_10 => (lt_ (f_Reckoner_settle z_9.1 z_10.1 (pe - 1) z_10.2 ru rl) fun z_11 => (z_11.1, z_11.2.1, z_11.2.2.1, z_11.2.2.2)))))) else (if kd = 6 then (lt_ (f_Reckoner_product 0 z_2 wy) fun z_17 => (lt_ (f_Reckoner_product z_1 1 z_17.2) fun z_18 => (lt_ (f_Reckoner_difference z_17.1 z_18.1 z_18.2) fun z_19 => (lt_ (f_Reckoner_product 1 z_2 z_19.2) fun z_20 => (lt_ (f_Reckoner_settle z_19.1 z_20.1 (pe - 1) z_20.2 ru rl) fun z_21 => (z_21.1, z_21.2.1, z_21.2.2.1, z_21.2.2.2)))))) else (if (lg_cmp z_1 0) = 0 then (pe - 1, 3, ru, rl) else (lt_ (f_Reckoner_product 0 z_2 wy) fun z_14 => (lt_ (f_Reckoner_product 1 z_1 z_14.2) fun z_15 => (lt_ (f_Reckoner_settle z_14.1 z_15.1 (pe - 1) z_15.2 ru rl) fun z_16 => (z_16.1, z_16.2.1, z_16.2.2.1, z_16.2.2.2))))))))) else (lt_ (f_Reckoner_upper (pe - 1) wy ru) fun z_30 => (lt_ (f_Reckoner_lower (pe - 1) wy rl) fun z_31 => (if kd = 42 then (lt_ (f_Reckoner_product z_30 z_1 wy) fun z_55 => (lt_ (f_Reckoner_product z_31 z_2 z_55.2) fun z_56 => (lt_ (f_Reckoner_settle z_55.1 z_56.1 ((pe - 1) - 1) z_56.2 ru rl) fun z_57 => (z_57.1, z_57.2.1, z_57.2.2.1, z_57.2.2.2)))) else (if kd = 43 then (lt_ (f_Reckoner_product z_30 z_2 wy) fun z_50 => (lt_ (f_Reckoner_product z_1 z_31 z_50.2) fun z_51 => (lt_ (f_Reckoner_sum z_50.1 z_51.1 z_51.2) fun z_52 => (lt_ (f_Reckoner_product z_31 z_2 z_52.2) fun z_53 => (lt_ (f_Reckoner_settle z_52.1 z_53.1 ((pe - 1) - 1) z_53.2 ru rl) fun z_54 => (z_54.1, z_54.2.1, z_54.2.2.1, z_54.2.2.2)))))) else (if kd = 45 then (lt_ (f_Reckoner_product z_30 z_2 wy) fun z_35 => (lt_ (f_Reckoner_product z_1 z_31 z_35.2) fun z_36 => (lt_ (f_Reckoner_difference z_35.1 z_36.1 z_36.2) fun z_37 => (lt_ (f_Reckoner_product z_31 z_2 z_37.2) fun z_38 => (lt_ (f_Reckoner_settle z_37.1 z_38.1 ((pe - 1) - 1) z_38.2 ru rl) fun z_39 => (z_39.1, z_39.2.1, z_39.2.2.1, z_39.2.2.2)))))) else (if kd = 6 then (lt_ (f_Reckoner_product z_30 z_2 wy) fun z_45 => (lt_ (f_Reckoner_product z_1 z_31 z_45.2) fun z_46 => (lt_ (f_Reckoner_difference z_45.1 z_46.1 z_46.2) fun z_47 => (lt_ (f_Reckoner_product z_31 z_2 z_47.2) fun z_48 => (lt_ (f_Reckoner_settle z_47.1 z_48.1 ((pe - 1) - 1) z_48.2 ru rl) fun z_49 => (z_49.1, z_49.2.1, z_49.2.2.1, z_49.2.2.2)))))) else (if (lg_cmp z_1 0) = 0 then ((pe - 1) - 1, 3, ru, rl) else (lt_ (f_Reckoner_product z_30 z_2 wy) fun z_42 => (lt_ (f_Reckoner_product z_31 z_1 z_42.2) fun z_43 => (lt_ (f_Reckoner_settle z_42.1 z_43.1 ((pe - 1) - 1) z_43.2 ru rl) fun z_44 => (z_44.1, z_44.2.1, z_44.2.2.1, z_44.2.2.2))))))))))))))
abbrev q_Reckoner_join (dC : Nat → ClassId) (dI : Nat → Nat → Nat) (cB cI cJ : ClassId) (oR aU aL : Nat) (kd : Int32) (pe : Int32) (wy : Int32) (mi : Int64) (ru : (Nat → Int64)) (rl : (Nat → Int64)) (A : Nat → Prop) : Array Value → State → Outcome → State → Prop := va_Qv (fun u : Int32 × Int32 × (Nat → Int64) × (Nat → Int64) => u = f_Reckoner_join kd pe wy ru rl) (fun u t => va_P (dC, dI) vwCl [(oR, .inr (4, [.ref aU, .ref aL, .int u.1, .int u.2.1, .long mi])), (aU, .inl (cJ, 19, .inr (.inl u.2.2.1))), (aL, .inl (cJ, 19, .inr (.inl u.2.2.2)))] t.heap ∧ va_D A [(oR, .inr (4, [.ref aU, .ref aL, .int u.1, .int u.2.1, .long mi])), (aU, .inl (cJ, 19, .inr (.inl u.2.2.1))), (aL, .inl (cJ, 19, .inr (.inl u.2.2.2)))]) A
set_option maxHeartbeats 4000000 in
set_option maxRecDepth 100000 in
theorem c_Reckoner_join (l : Launch) (dC : Nat → ClassId) (dI : Nat → Nat → Nat) (cB cI cJ : ClassId) (oR aU aL : Nat) (sz : Nat) (kd : Int32) (pe : Int32) (wy : Int32) (mi : Int64) (ru : (Nat → Int64)) (rl : (Nat → Int64)) : Met l y_Reckoner_join (cw_Reckoner_join :: bgw) { frames := 2, cells := 0, slots := 0, locals := 58 } (va_Pc [.ref oR, .int kd] (kb_B dC dI cB cI cJ [(oR, .inr (4, [.ref aU, .ref aL, .int pe, .int wy, .long mi])), (aU, .inl (cJ, 19, .inr (.inl ru))), (aL, .inl (cJ, 19, .inr (.inl rl)))] sz)) (q_Reckoner_join dC dI cB cI cJ oR aU aL kd pe wy mi ru rl (va_A [(oR, .inr (4, [.ref aU, .ref aL, .int pe, .int wy, .long mi])), (aU, .inl (cJ, 19, .inr (.inl ru))), (aL, .inl (cJ, 19, .inr (.inl rl)))] sz)) 0 0 (va_A [(oR, .inr (4, [.ref aU, .ref aL, .int pe, .int wy, .long mi])), (aU, .inl (cJ, 19, .inr (.inl ru))), (aL, .inl (cJ, 19, .inr (.inl rl)))] sz) := by
  refine Met.ofW (cc := prog_6_method_11_code) (maxL := 10) (ret := none) (by decide) rfl ?_
  intro p e s m args below meth c s₁ B hml hv
  obtain ⟨rfl, hsz, hP, hKx, hD0⟩ := hv
  have hx := B.exec
  have hb := B.bytes
  have hr := B.returns
  have hts := atoms_spec (ws := (cw_Reckoner_join :: bgw)) B.pre
  have hown : s.vm.findClass "PermitRules$Reckoner" = some m.cls := findClass_of_methodNamed B.named
  have hlocks := B.notSynchronized
  have htb := fun (w : Cond) (h : w ∈ bgw) => hts w (List.mem_cons_of_mem _ h)
  have hK := hKx.1
  subst hsz
  have hD := hD0.self (sz := s.heap.size)
  generalize hAe : va_A [(oR, .inr (4, [.ref aU, .ref aL, .int pe, .int wy, .long mi])), (aU, .inl (cJ, 19, .inr (.inl ru))), (aL, .inl (cJ, 19, .inr (.inl rl)))] s.heap.size = A at hD ⊢
  have hA : ∀ q : Nat, s.heap.size ≤ q → A q := fun q h => by rw [← hAe]; exact Or.inr h
  have hS : va_S A s.heap s.heap [] := va_S.rf
  have hl := lv_entry ([.ref oR, .int kd]) (n := 10) (Nat.le_of_ble_eq_true rfl)
  rw [lg_entry_eq]
  generalize (lg_sl ([.ref oR, .int kd]) ++ List.replicate (10 - (lg_sl ([.ref oR, .int kd])).length) Slot.unset).toArray = ls at hl ⊢
  have hl : lv_has ls 10 [(0, .ref oR), (1, .int kd)] := hl
  have hP : va_P (dC, dI) vwCl [(oR, .inr (4, [.ref aU, .ref aL, .int pe, .int wy, .long mi])), (aU, .inl (cJ, 19, .inr (.inl ru))), (aL, .inl (cJ, 19, .inr (.inl rl)))] s.heap := hP
  have hF : f_Reckoner_join kd pe wy ru rl = (lt_ (f_Reckoner_upper pe wy ru) fun z_1 => (lt_ (f_Reckoner_lower pe wy rl) fun z_2 => (if kd = 6 then (if kd = 42 then (lt_ (f_Reckoner_product 0 z_1 wy) fun z_27 => (lt_ (f_Reckoner_product 1 z_2 z_27.2) fun z_28 => (lt_ (f_Reckoner_settle z_27.1 z_28.1 (pe - 1) z_28.2 ru rl) fun z_29 => (z_29.1, z_29.2.1, z_29.2.2.1, z_29.2.2.2)))) else (if kd = 43 then (lt_ (f_Reckoner_product 0 z_2 wy) fun z_22 => (lt_ (f_Reckoner_product z_1 1 z_22.2) fun z_23 => (lt_ (f_Reckoner_sum z_22.1 z_23.1 z_23.2) fun z_24 => (lt_ (f_Reckoner_product 1 z_2 z_24.2) fun z_25 => (lt_ (f_Reckoner_settle z_24.1 z_25.1 (pe - 1) z_25.2 ru rl) fun z_26 => (z_26.1, z_26.2.1, z_26.2.2.1, z_26.2.2.2)))))) else (if kd = 45 then (lt_ (f_Reckoner_product 0 z_2 wy) fun z_7 => (lt_ (f_Reckoner_product z_1 1 z_7.2) fun z_8 => (lt_ (f_Reckoner_difference z_7.1 z_8.1 z_8.2) fun z_9 => (lt_ (f_Reckoner_product 1 z_2 z_9.2) fun z_10 => (lt_ (f_Reckoner_settle z_9.1 z_10.1 (pe - 1) z_10.2 ru rl) fun z_11 => (z_11.1, z_11.2.1, z_11.2.2.1, z_11.2.2.2)))))) else (if kd = 6 then (lt_ (f_Reckoner_product 0 z_2 wy) fun z_17 => (lt_ (f_Reckoner_product z_1 1 z_17.2) fun z_18 => (lt_ (f_Reckoner_difference z_17.1 z_18.1 z_18.2) fun z_19 => (lt_ (f_Reckoner_product 1 z_2 z_19.2) fun z_20 => (lt_ (f_Reckoner_settle z_19.1 z_20.1 (pe - 1) z_20.2 ru rl) fun z_21 => (z_21.1, z_21.2.1, z_21.2.2.1, z_21.2.2.2)))))) else (if (lg_cmp z_1 0) = 0 then (pe - 1, 3, ru, rl) else (lt_ (f_Reckoner_product 0 z_2 wy) fun z_14 => (lt_ (f_Reckoner_product 1 z_1 z_14.2) fun z_15 => (lt_ (f_Reckoner_settle z_14.1 z_15.1 (pe - 1) z_15.2 ru rl) fun z_16 => (z_16.1, z_16.2.1, z_16.2.2.1, z_16.2.2.2))))))))) else (lt_ (f_Reckoner_upper (pe - 1) wy ru) fun z_30 => (lt_ (f_Reckoner_lower (pe - 1) wy rl) fun z_31 => (if kd = 42 then (lt_ (f_Reckoner_product z_30 z_1 wy) fun z_55 => (lt_ (f_Reckoner_product z_31 z_2 z_55.2) fun z_56 => (lt_ (f_Reckoner_settle z_55.1 z_56.1 ((pe - 1) - 1) z_56.2 ru rl) fun z_57 => (z_57.1, z_57.2.1, z_57.2.2.1, z_57.2.2.2)))) else (if kd = 43 then (lt_ (f_Reckoner_product z_30 z_2 wy) fun z_50 => (lt_ (f_Reckoner_product z_1 z_31 z_50.2) fun z_51 => (lt_ (f_Reckoner_sum z_50.1 z_51.1 z_51.2) fun z_52 => (lt_ (f_Reckoner_product z_31 z_2 z_52.2) fun z_53 => (lt_ (f_Reckoner_settle z_52.1 z_53.1 ((pe - 1) - 1) z_53.2 ru rl) fun z_54 => (z_54.1, z_54.2.1, z_54.2.2.1, z_54.2.2.2)))))) else (if kd = 45 then (lt_ (f_Reckoner_product z_30 z_2 wy) fun z_35 => (lt_ (f_Reckoner_product z_1 z_31 z_35.2) fun z_36 => (lt_ (f_Reckoner_difference z_35.1 z_36.1 z_36.2) fun z_37 => (lt_ (f_Reckoner_product z_31 z_2 z_37.2) fun z_38 => (lt_ (f_Reckoner_settle z_37.1 z_38.1 ((pe - 1) - 1) z_38.2 ru rl) fun z_39 => (z_39.1, z_39.2.1, z_39.2.2.1, z_39.2.2.2)))))) else (if kd = 6 then (lt_ (f_Reckoner_product z_30 z_2 wy) fun z_45 => (lt_ (f_Reckoner_product z_1 z_31 z_45.2) fun z_46 => (lt_ (f_Reckoner_difference z_45.1 z_46.1 z_46.2) fun z_47 => (lt_ (f_Reckoner_product z_31 z_2 z_47.2) fun z_48 => (lt_ (f_Reckoner_settle z_47.1 z_48.1 ((pe - 1) - 1) z_48.2 ru rl) fun z_49 => (z_49.1, z_49.2.1, z_49.2.2.1, z_49.2.2.2)))))) else (if (lg_cmp z_1 0) = 0 then ((pe - 1) - 1, 3, ru, rl) else (lt_ (f_Reckoner_product z_30 z_2 wy) fun z_42 => (lt_ (f_Reckoner_product z_31 z_1 z_42.2) fun z_43 => (lt_ (f_Reckoner_settle z_42.1 z_43.1 ((pe - 1) - 1) z_43.2 ru rl) fun z_44 => (z_44.1, z_44.2.1, z_44.2.2.1, z_44.2.2.2)))))))))))))) := rfl
  refine lv_lconst (v := 0) hx hb d_Reckoner_join_0 (by decide) ?_
  refine lv_lstore_n (lv' := [(2, .long 0), (0, .ref oR), (1, .int kd)]) hx hb d_Reckoner_join_1 rfl hl (by decide) rfl (fun ls hl => ?_)
  refine lv_lconst (v := 1) hx hb d_Reckoner_join_2 (by decide) ?_
  refine lv_lstore (lv' := [(4, .long 1), (2, .long 0), (0, .ref oR), (1, .int kd)]) hx hb d_Reckoner_join_3 hl (by decide) rfl (fun ls hl => ?_)
  refine lv_aload_n hx hb d_Reckoner_join_5 rfl (lv_at hl 2 rfl) ?_
  have hPc := hP.sub (ws' := [(oR, .inr (4, [.ref aU, .ref aL, .int pe, .int wy, .long mi])), (aU, .inl (cJ, 19, .inr (.inl ru))), (aL, .inl (cJ, 19, .inr (.inl rl)))]) [0, 1, 2] rfl
  have hDc := hD.sub (ws' := [(oR, .inr (4, [.ref aU, .ref aL, .int pe, .int wy, .long mi])), (aU, .inl (cJ, 19, .inr (.inl ru))), (aL, .inl (cJ, 19, .inr (.inl rl)))]) [0, 1, 2] (by decide) rfl
  have hFc := va_free (wc := [(oR, .inr (4, [.ref aU, .ref aL, .int pe, .int wy, .long mi])), (aU, .inl (cJ, 19, .inr (.inl ru))), (aL, .inl (cJ, 19, .inr (.inl rl)))]) hD hS hA [0, 1, 2] rfl
  refine va_calll (va_runV (As := []) (rest := []) ⟨hx, hb, hml, hown, htb⟩ (c_Reckoner_upper l dC dI cB cI cJ oR aU aL _ pe wy mi ru rl ) ⟨callB_of 0 htb (gb_all mb_550) rfl rfl rfl (htb _ mb_7) (htb _ mb_547) (by decide +kernel) ⟨Nat.le_of_ble_eq_true rfl, Nat.le_of_ble_eq_true rfl⟩, htb _ mb_548, htb _ mb_549⟩ ⟨kb_blind, va_recv hK hPc (ci := 4) (q0 := 0) rfl rfl, kb_at hPc hDc hKx⟩ rfl rfl hl.1 rfl (lv_room (Nat.le_of_ble_eq_true rfl)) d_Reckoner_join_6 ⟨Nat.le_of_ble_eq_true rfl, Nat.le_of_ble_eq_true rfl⟩) hS (fun q _ h => hFc q h) hFc (fun z_1 u t H1 locs ht hvm hw hB hz1 hk1 hS => ?_)
  have hz_1 := hw
  have hF := hF.trans (lt_e hz_1)
  obtain ⟨hP1, hD1⟩ := hB
  rw [ht] at hP1
  obtain ⟨hP, hD⟩ := va_join (wr := []) (w1 := [(oR, .inr (4, [.ref aU, .ref aL, .int pe, .int wy, .long mi])), (aU, .inl (cJ, 19, .inr (.inl ru))), (aL, .inl (cJ, 19, .inr (.inl rl)))]) hP hD [0, 1, 2] [] rfl rfl (by decide) (by decide) hk1 hFc hP1 hD1
  generalize H1 = H at hP hS ⊢
  have hP : va_P (dC, dI) vwCl [(oR, .inr (4, [.ref aU, .ref aL, .int pe, .int wy, .long mi])), (aU, .inl (cJ, 19, .inr (.inl ru))), (aL, .inl (cJ, 19, .inr (.inl rl)))] H := hP
  have hD : va_D A [(oR, .inr (4, [.ref aU, .ref aL, .int pe, .int wy, .long mi])), (aU, .inl (cJ, 19, .inr (.inl ru))), (aL, .inl (cJ, 19, .inr (.inl rl)))] := hD
  refine lv_lstore (lv' := [(6, .long z_1), (4, .long 1), (2, .long 0), (0, .ref oR), (1, .int kd)]) hx hb d_Reckoner_join_9 hl (by decide) rfl (fun ls hl => ?_)
  refine lv_aload_n hx hb d_Reckoner_join_11 rfl (lv_at hl 3 rfl) ?_
  have hPc := hP.sub (ws' := [(oR, .inr (4, [.ref aU, .ref aL, .int pe, .int wy, .long mi])), (aU, .inl (cJ, 19, .inr (.inl ru))), (aL, .inl (cJ, 19, .inr (.inl rl)))]) [0, 1, 2] rfl
  have hDc := hD.sub (ws' := [(oR, .inr (4, [.ref aU, .ref aL, .int pe, .int wy, .long mi])), (aU, .inl (cJ, 19, .inr (.inl ru))), (aL, .inl (cJ, 19, .inr (.inl rl)))]) [0, 1, 2] (by decide) rfl
  have hFc := va_free (wc := [(oR, .inr (4, [.ref aU, .ref aL, .int pe, .int wy, .long mi])), (aU, .inl (cJ, 19, .inr (.inl ru))), (aL, .inl (cJ, 19, .inr (.inl rl)))]) hD hS hA [0, 1, 2] rfl
  refine va_calll (va_runV (As := []) (rest := []) ⟨hx, hb, hml, hown, htb⟩ (c_Reckoner_lower l dC dI cB cI cJ oR aU aL _ pe wy mi ru rl ) ⟨callB_of 0 htb (gb_all mb_554) rfl rfl rfl (htb _ mb_7) (htb _ mb_551) (by decide +kernel) ⟨Nat.le_of_ble_eq_true rfl, Nat.le_of_ble_eq_true rfl⟩, htb _ mb_552, htb _ mb_553⟩ ⟨kb_blind, va_recv hK hPc (ci := 4) (q0 := 0) rfl rfl, kb_at hPc hDc hKx⟩ rfl rfl hl.1 rfl (lv_room (Nat.le_of_ble_eq_true rfl)) d_Reckoner_join_12 ⟨Nat.le_of_ble_eq_true rfl, Nat.le_of_ble_eq_true rfl⟩) hS (fun q _ h => hFc q h) hFc (fun z_2 u t H1 locs ht hvm hw hB hz1 hk1 hS => ?_)
  have hz_2 := hw
  have hF := hF.trans (lt_e hz_2)
  obtain ⟨hP1, hD1⟩ := hB
  rw [ht] at hP1
  obtain ⟨hP, hD⟩ := va_join (wr := []) (w1 := [(oR, .inr (4, [.ref aU, .ref aL, .int pe, .int wy, .long mi])), (aU, .inl (cJ, 19, .inr (.inl ru))), (aL, .inl (cJ, 19, .inr (.inl rl)))]) hP hD [0, 1, 2] [] rfl rfl (by decide) (by decide) hk1 hFc hP1 hD1
  generalize H1 = H at hP hS ⊢
  have hP : va_P (dC, dI) vwCl [(oR, .inr (4, [.ref aU, .ref aL, .int pe, .int wy, .long mi])), (aU, .inl (cJ, 19, .inr (.inl ru))), (aL, .inl (cJ, 19, .inr (.inl rl)))] H := hP
  have hD : va_D A [(oR, .inr (4, [.ref aU, .ref aL, .int pe, .int wy, .long mi])), (aU, .inl (cJ, 19, .inr (.inl ru))), (aL, .inl (cJ, 19, .inr (.inl rl)))] := hD
  refine lv_lstore (lv' := [(8, .long z_2), (6, .long z_1), (4, .long 1), (2, .long 0), (0, .ref oR), (1, .int kd)]) hx hb d_Reckoner_join_15 hl (by decide) rfl (fun ls hl => ?_)
  refine lv_aload_n hx hb d_Reckoner_join_17 rfl (lv_at hl 4 rfl) ?_
  refine lv_dup hx hb d_Reckoner_join_18 rfl ?_
  refine va_get (D := (dC, dI)) (ci := 4) (v := .int pe) (C := "PermitRules$Reckoner") (T := T_Reckoner) (N := 5) hx hb htb in_Reckoner hown hK hP 0 rfl rfl 2 (by decide) (htb _ mb_100) (fun _ h9 => h9) rfl d_Reckoner_join_19 ?_
  refine lv_iconst (v := 1) hx hb d_Reckoner_join_22 (by decide) ?_
  refine lv_isub hx hb d_Reckoner_join_23 ?_
  refine va_put (D := (dC, dI)) (ci := 4) (v := .int (pe - 1)) (ty := .int) (C := "PermitRules$Reckoner") (T := T_Reckoner) (N := 5) hx hb htb in_Reckoner ty_Reckoner to_Reckoner nm_Reckoner hown hK hP hD hS 0 rfl rfl 2 (by decide) (htb _ mb_100) (fun _ h9 => h9) rfl (by decide +kernel) rfl rfl (Nat.le_of_ble_eq_true rfl) d_Reckoner_join_24 (fun H locs hP hD hS => ?_)
  have hP : va_P (dC, dI) vwCl [(oR, .inr (4, [.ref aU, .ref aL, .int (pe - 1), .int wy, .long mi])), (aU, .inl (cJ, 19, .inr (.inl ru))), (aL, .inl (cJ, 19, .inr (.inl rl)))] H := hP
  have hD : va_D A [(oR, .inr (4, [.ref aU, .ref aL, .int (pe - 1), .int wy, .long mi])), (aU, .inl (cJ, 19, .inr (.inl ru))), (aL, .inl (cJ, 19, .inr (.inl rl)))] := hD
  refine lv_iload_n hx hb d_Reckoner_join_27 rfl (lv_at hl 5 rfl) ?_
  refine lv_bipush (v := 6) hx hb d_Reckoner_join_28 (by decide) ?_
  refine lv_icmp_eq (tgt := 54) hx hb d_Reckoner_join_30 (by decide) (fun c_3 => ?_) (fun c_3 => ?_)
  · have hF := hF.trans (if_pos c_3)
    refine lv_iload_n hx hb d_Reckoner_join_54 rfl (lv_at hl 5 rfl) ?_
    refine lv_bipush (v := 42) hx hb d_Reckoner_join_55 (by decide) ?_
    refine lv_icmp_ne (tgt := 82) hx hb d_Reckoner_join_57 (by decide) (fun c_4 => ?_) (fun c_4 => ?_)
    · have hF := hF.trans (if_neg c_4)
      refine lv_iload_n hx hb d_Reckoner_join_82 rfl (lv_at hl 5 rfl) ?_
      refine lv_bipush (v := 43) hx hb d_Reckoner_join_83 (by decide) ?_
      refine lv_icmp_ne (tgt := 122) hx hb d_Reckoner_join_85 (by decide) (fun c_5 => ?_) (fun c_5 => ?_)
      · have hF := hF.trans (if_neg c_5)
        refine lv_iload_n hx hb d_Reckoner_join_122 rfl (lv_at hl 5 rfl) ?_
        refine lv_bipush (v := 45) hx hb d_Reckoner_join_123 (by decide) ?_
        refine lv_icmp_eq (tgt := 134) hx hb d_Reckoner_join_125 (by decide) (fun c_6 => ?_) (fun c_6 => ?_)
        · have hF := hF.trans (if_pos c_6)
          refine lv_aload_n hx hb d_Reckoner_join_134 rfl (lv_at hl 4 rfl) ?_
          refine lv_aload_n hx hb d_Reckoner_join_135 rfl (lv_at hl 4 rfl) ?_
          refine lv_aload_n hx hb d_Reckoner_join_136 rfl (lv_at hl 4 rfl) ?_
          refine lv_lload_n hx hb d_Reckoner_join_137 rfl (lv_at hl 3 rfl) ?_
          refine lv_lload hx hb d_Reckoner_join_138 (lv_at hl 0 rfl) ?_
          have hPc := hP.sub (ws' := [(oR, .inr (4, [.ref aU, .ref aL, .int (pe - 1), .int wy, .long mi])), (aU, .inl (cJ, 19, .inr (.inl ru))), (aL, .inl (cJ, 19, .inr (.inl rl)))]) [0, 1, 2] rfl
          have hDc := hD.sub (ws' := [(oR, .inr (4, [.ref aU, .ref aL, .int (pe - 1), .int wy, .long mi])), (aU, .inl (cJ, 19, .inr (.inl ru))), (aL, .inl (cJ, 19, .inr (.inl rl)))]) [0, 1, 2] (by decide) rfl
          have hFc := va_free (wc := [(oR, .inr (4, [.ref aU, .ref aL, .int (pe - 1), .int wy, .long mi])), (aU, .inl (cJ, 19, .inr (.inl ru))), (aL, .inl (cJ, 19, .inr (.inl rl)))]) hD hS hA [0, 1, 2] rfl
          refine va_calll (va_runV (As := [.long 0, .long z_2]) (rest := [.ref oR, .ref oR]) ⟨hx, hb, hml, hown, htb⟩ (c_Reckoner_product l dC dI cB cI cJ oR aU aL _ 0 z_2 (pe - 1) wy mi ru rl ) ⟨callB_of 2 htb (gb_all mb_558) rfl rfl rfl (htb _ mb_7) (htb _ mb_555) (by decide +kernel) ⟨Nat.le_of_ble_eq_true rfl, Nat.le_of_ble_eq_true rfl⟩, htb _ mb_556, htb _ mb_557⟩ ⟨kb_blind, va_recv hK hPc (ci := 4) (q0 := 0) rfl rfl, kb_at hPc hDc hKx⟩ rfl rfl hl.1 rfl (lv_room (Nat.le_of_ble_eq_true rfl)) d_Reckoner_join_140 ⟨Nat.le_of_ble_eq_true rfl, Nat.le_of_ble_eq_true rfl⟩) hS (fun q _ h => hFc q h) hFc (fun r u t H1 locs ht hvm hw hB hz1 hk1 hS => ?_)
          obtain ⟨z_7, hzz_7⟩ : ∃ z, z = f_Reckoner_product 0 z_2 wy := ⟨_, rfl⟩
          rw [← hzz_7] at hw
          obtain ⟨rfl, rfl⟩ := hw
          have hF := hF.trans (lt_e hzz_7)
          obtain ⟨hP1, hD1⟩ := hB
          rw [ht] at hP1
          obtain ⟨hP, hD⟩ := va_join (wr := []) (w1 := [(oR, .inr (4, [.ref aU, .ref aL, .int (pe - 1), .int z_7.2, .long mi])), (aU, .inl (cJ, 19, .inr (.inl ru))), (aL, .inl (cJ, 19, .inr (.inl rl)))]) hP hD [0, 1, 2] [] rfl rfl (by decide) (by decide) hk1 hFc hP1 hD1
          generalize H1 = H at hP hS ⊢
          have hP : va_P (dC, dI) vwCl [(oR, .inr (4, [.ref aU, .ref aL, .int (pe - 1), .int z_7.2, .long mi])), (aU, .inl (cJ, 19, .inr (.inl ru))), (aL, .inl (cJ, 19, .inr (.inl rl)))] H := hP
          have hD : va_D A [(oR, .inr (4, [.ref aU, .ref aL, .int (pe - 1), .int z_7.2, .long mi])), (aU, .inl (cJ, 19, .inr (.inl ru))), (aL, .inl (cJ, 19, .inr (.inl rl)))] := hD
          refine lv_aload_n hx hb d_Reckoner_join_143 rfl (lv_at hl 4 rfl) ?_
          refine lv_lload hx hb d_Reckoner_join_144 (lv_at hl 1 rfl) ?_
          refine lv_lload hx hb d_Reckoner_join_146 (lv_at hl 2 rfl) ?_
          have hPc := hP.sub (ws' := [(oR, .inr (4, [.ref aU, .ref aL, .int (pe - 1), .int z_7.2, .long mi])), (aU, .inl (cJ, 19, .inr (.inl ru))), (aL, .inl (cJ, 19, .inr (.inl rl)))]) [0, 1, 2] rfl
          have hDc := hD.sub (ws' := [(oR, .inr (4, [.ref aU, .ref aL, .int (pe - 1), .int z_7.2, .long mi])), (aU, .inl (cJ, 19, .inr (.inl ru))), (aL, .inl (cJ, 19, .inr (.inl rl)))]) [0, 1, 2] (by decide) rfl
          have hFc := va_free (wc := [(oR, .inr (4, [.ref aU, .ref aL, .int (pe - 1), .int z_7.2, .long mi])), (aU, .inl (cJ, 19, .inr (.inl ru))), (aL, .inl (cJ, 19, .inr (.inl rl)))]) hD hS hA [0, 1, 2] rfl
          refine va_calll (va_runV (As := [.long z_1, .long 1]) (rest := [.long z_7.1, .ref oR, .ref oR]) ⟨hx, hb, hml, hown, htb⟩ (c_Reckoner_product l dC dI cB cI cJ oR aU aL _ z_1 1 (pe - 1) z_7.2 mi ru rl ) ⟨callB_of 2 htb (gb_all mb_558) rfl rfl rfl (htb _ mb_7) (htb _ mb_555) (by decide +kernel) ⟨Nat.le_of_ble_eq_true rfl, Nat.le_of_ble_eq_true rfl⟩, htb _ mb_556, htb _ mb_557⟩ ⟨kb_blind, va_recv hK hPc (ci := 4) (q0 := 0) rfl rfl, kb_at hPc hDc hKx⟩ rfl rfl hl.1 rfl (lv_room (Nat.le_of_ble_eq_true rfl)) d_Reckoner_join_148 ⟨Nat.le_of_ble_eq_true rfl, Nat.le_of_ble_eq_true rfl⟩) hS (fun q _ h => hFc q h) hFc (fun r u t H1 locs ht hvm hw hB hz1 hk1 hS => ?_)
          obtain ⟨z_8, hzz_8⟩ : ∃ z, z = f_Reckoner_product z_1 1 z_7.2 := ⟨_, rfl⟩
          rw [← hzz_8] at hw
          obtain ⟨rfl, rfl⟩ := hw
          have hF := hF.trans (lt_e hzz_8)
          obtain ⟨hP1, hD1⟩ := hB
          rw [ht] at hP1
          obtain ⟨hP, hD⟩ := va_join (wr := []) (w1 := [(oR, .inr (4, [.ref aU, .ref aL, .int (pe - 1), .int z_8.2, .long mi])), (aU, .inl (cJ, 19, .inr (.inl ru))), (aL, .inl (cJ, 19, .inr (.inl rl)))]) hP hD [0, 1, 2] [] rfl rfl (by decide) (by decide) hk1 hFc hP1 hD1
          generalize H1 = H at hP hS ⊢
          have hP : va_P (dC, dI) vwCl [(oR, .inr (4, [.ref aU, .ref aL, .int (pe - 1), .int z_8.2, .long mi])), (aU, .inl (cJ, 19, .inr (.inl ru))), (aL, .inl (cJ, 19, .inr (.inl rl)))] H := hP
          have hD : va_D A [(oR, .inr (4, [.ref aU, .ref aL, .int (pe - 1), .int z_8.2, .long mi])), (aU, .inl (cJ, 19, .inr (.inl ru))), (aL, .inl (cJ, 19, .inr (.inl rl)))] := hD
          have hPc := hP.sub (ws' := [(oR, .inr (4, [.ref aU, .ref aL, .int (pe - 1), .int z_8.2, .long mi])), (aU, .inl (cJ, 19, .inr (.inl ru))), (aL, .inl (cJ, 19, .inr (.inl rl)))]) [0, 1, 2] rfl
          have hDc := hD.sub (ws' := [(oR, .inr (4, [.ref aU, .ref aL, .int (pe - 1), .int z_8.2, .long mi])), (aU, .inl (cJ, 19, .inr (.inl ru))), (aL, .inl (cJ, 19, .inr (.inl rl)))]) [0, 1, 2] (by decide) rfl
          have hFc := va_free (wc := [(oR, .inr (4, [.ref aU, .ref aL, .int (pe - 1), .int z_8.2, .long mi])), (aU, .inl (cJ, 19, .inr (.inl ru))), (aL, .inl (cJ, 19, .inr (.inl rl)))]) hD hS hA [0, 1, 2] rfl
          refine va_calll (va_runV (As := [.long z_7.1, .long z_8.1]) (rest := [.ref oR]) ⟨hx, hb, hml, hown, htb⟩ (c_Reckoner_difference l dC dI cB cI cJ oR aU aL _ z_7.1 z_8.1 (pe - 1) z_8.2 mi ru rl ) ⟨callB_of 2 htb (gb_all mb_575) rfl rfl rfl (htb _ mb_7) (htb _ mb_572) (by decide +kernel) ⟨Nat.le_of_ble_eq_true rfl, Nat.le_of_ble_eq_true rfl⟩, htb _ mb_574, htb _ mp_12⟩ ⟨kb_blind, va_recv hK hPc (ci := 4) (q0 := 0) rfl rfl, kb_at hPc hDc hKx⟩ rfl rfl hl.1 rfl (lv_room (Nat.le_of_ble_eq_true rfl)) d_Reckoner_join_151 ⟨Nat.le_of_ble_eq_true rfl, Nat.le_of_ble_eq_true rfl⟩) hS (fun q _ h => hFc q h) hFc (fun r u t H1 locs ht hvm hw hB hz1 hk1 hS => ?_)
          obtain ⟨z_9, hzz_9⟩ : ∃ z, z = f_Reckoner_difference z_7.1 z_8.1 z_8.2 := ⟨_, rfl⟩
          rw [← hzz_9] at hw
          obtain ⟨rfl, rfl⟩ := hw
          have hF := hF.trans (lt_e hzz_9)
          obtain ⟨hP1, hD1⟩ := hB
          rw [ht] at hP1
          obtain ⟨hP, hD⟩ := va_join (wr := []) (w1 := [(oR, .inr (4, [.ref aU, .ref aL, .int (pe - 1), .int z_9.2, .long mi])), (aU, .inl (cJ, 19, .inr (.inl ru))), (aL, .inl (cJ, 19, .inr (.inl rl)))]) hP hD [0, 1, 2] [] rfl rfl (by decide) (by decide) hk1 hFc hP1 hD1
          generalize H1 = H at hP hS ⊢
          have hP : va_P (dC, dI) vwCl [(oR, .inr (4, [.ref aU, .ref aL, .int (pe - 1), .int z_9.2, .long mi])), (aU, .inl (cJ, 19, .inr (.inl ru))), (aL, .inl (cJ, 19, .inr (.inl rl)))] H := hP
          have hD : va_D A [(oR, .inr (4, [.ref aU, .ref aL, .int (pe - 1), .int z_9.2, .long mi])), (aU, .inl (cJ, 19, .inr (.inl ru))), (aL, .inl (cJ, 19, .inr (.inl rl)))] := hD
          refine lv_aload_n hx hb d_Reckoner_join_154 rfl (lv_at hl 4 rfl) ?_
          refine lv_lload hx hb d_Reckoner_join_155 (lv_at hl 2 rfl) ?_
          refine lv_lload hx hb d_Reckoner_join_157 (lv_at hl 0 rfl) ?_
          have hPc := hP.sub (ws' := [(oR, .inr (4, [.ref aU, .ref aL, .int (pe - 1), .int z_9.2, .long mi])), (aU, .inl (cJ, 19, .inr (.inl ru))), (aL, .inl (cJ, 19, .inr (.inl rl)))]) [0, 1, 2] rfl
          have hDc := hD.sub (ws' := [(oR, .inr (4, [.ref aU, .ref aL, .int (pe - 1), .int z_9.2, .long mi])), (aU, .inl (cJ, 19, .inr (.inl ru))), (aL, .inl (cJ, 19, .inr (.inl rl)))]) [0, 1, 2] (by decide) rfl
          have hFc := va_free (wc := [(oR, .inr (4, [.ref aU, .ref aL, .int (pe - 1), .int z_9.2, .long mi])), (aU, .inl (cJ, 19, .inr (.inl ru))), (aL, .inl (cJ, 19, .inr (.inl rl)))]) hD hS hA [0, 1, 2] rfl
          refine va_calll (va_runV (As := [.long 1, .long z_2]) (rest := [.long z_9.1, .ref oR]) ⟨hx, hb, hml, hown, htb⟩ (c_Reckoner_product l dC dI cB cI cJ oR aU aL _ 1 z_2 (pe - 1) z_9.2 mi ru rl ) ⟨callB_of 2 htb (gb_all mb_558) rfl rfl rfl (htb _ mb_7) (htb _ mb_555) (by decide +kernel) ⟨Nat.le_of_ble_eq_true rfl, Nat.le_of_ble_eq_true rfl⟩, htb _ mb_556, htb _ mb_557⟩ ⟨kb_blind, va_recv hK hPc (ci := 4) (q0 := 0) rfl rfl, kb_at hPc hDc hKx⟩ rfl rfl hl.1 rfl (lv_room (Nat.le_of_ble_eq_true rfl)) d_Reckoner_join_159 ⟨Nat.le_of_ble_eq_true rfl, Nat.le_of_ble_eq_true rfl⟩) hS (fun q _ h => hFc q h) hFc (fun r u t H1 locs ht hvm hw hB hz1 hk1 hS => ?_)
          obtain ⟨z_10, hzz_10⟩ : ∃ z, z = f_Reckoner_product 1 z_2 z_9.2 := ⟨_, rfl⟩
          rw [← hzz_10] at hw
          obtain ⟨rfl, rfl⟩ := hw
          have hF := hF.trans (lt_e hzz_10)
          obtain ⟨hP1, hD1⟩ := hB
          rw [ht] at hP1
          obtain ⟨hP, hD⟩ := va_join (wr := []) (w1 := [(oR, .inr (4, [.ref aU, .ref aL, .int (pe - 1), .int z_10.2, .long mi])), (aU, .inl (cJ, 19, .inr (.inl ru))), (aL, .inl (cJ, 19, .inr (.inl rl)))]) hP hD [0, 1, 2] [] rfl rfl (by decide) (by decide) hk1 hFc hP1 hD1
          generalize H1 = H at hP hS ⊢
          have hP : va_P (dC, dI) vwCl [(oR, .inr (4, [.ref aU, .ref aL, .int (pe - 1), .int z_10.2, .long mi])), (aU, .inl (cJ, 19, .inr (.inl ru))), (aL, .inl (cJ, 19, .inr (.inl rl)))] H := hP
          have hD : va_D A [(oR, .inr (4, [.ref aU, .ref aL, .int (pe - 1), .int z_10.2, .long mi])), (aU, .inl (cJ, 19, .inr (.inl ru))), (aL, .inl (cJ, 19, .inr (.inl rl)))] := hD
          have hPc := hP.sub (ws' := [(oR, .inr (4, [.ref aU, .ref aL, .int (pe - 1), .int z_10.2, .long mi])), (aU, .inl (cJ, 19, .inr (.inl ru))), (aL, .inl (cJ, 19, .inr (.inl rl)))]) [0, 1, 2] rfl
          have hDc := hD.sub (ws' := [(oR, .inr (4, [.ref aU, .ref aL, .int (pe - 1), .int z_10.2, .long mi])), (aU, .inl (cJ, 19, .inr (.inl ru))), (aL, .inl (cJ, 19, .inr (.inl rl)))]) [0, 1, 2] (by decide) rfl
          have hFc := va_free (wc := [(oR, .inr (4, [.ref aU, .ref aL, .int (pe - 1), .int z_10.2, .long mi])), (aU, .inl (cJ, 19, .inr (.inl ru))), (aL, .inl (cJ, 19, .inr (.inl rl)))]) hD hS hA [0, 1, 2] rfl
          refine va_callv (va_runV (As := [.long z_9.1, .long z_10.1]) (rest := []) ⟨hx, hb, hml, hown, htb⟩ (c_Reckoner_settle l dC dI cB cI cJ oR aU aL _ z_9.1 z_10.1 (pe - 1) z_10.2 mi ru rl ) ⟨callB_of 2 htb (gb_all mb_564) rfl rfl rfl (htb _ mb_7) (htb _ mb_561) (by decide +kernel) ⟨Nat.le_of_ble_eq_true rfl, Nat.le_of_ble_eq_true rfl⟩, htb _ mb_563, htb _ mp_10⟩ ⟨kb_blind, va_recv hK hPc (ci := 4) (q0 := 0) rfl rfl, kb_at hPc hDc hKx⟩ rfl rfl hl.1 rfl (lv_room (Nat.le_of_ble_eq_true rfl)) d_Reckoner_join_162 ⟨Nat.le_of_ble_eq_true rfl, Nat.le_of_ble_eq_true rfl⟩) hS (fun q _ h => hFc q h) hFc (fun z_11 t H1 locs ht hvm hw hB hz1 hk1 hS => ?_)
          have hz_11 := hw
          have hF := hF.trans (lt_e hz_11)
          obtain ⟨hP1, hD1⟩ := hB
          rw [ht] at hP1
          obtain ⟨hP, hD⟩ := va_join (wr := []) (w1 := [(oR, .inr (4, [.ref aU, .ref aL, .int z_11.1, .int z_11.2.1, .long mi])), (aU, .inl (cJ, 19, .inr (.inl z_11.2.2.1))), (aL, .inl (cJ, 19, .inr (.inl z_11.2.2.2)))]) hP hD [0, 1, 2] [] rfl rfl (by decide) (by decide) hk1 hFc hP1 hD1
          generalize H1 = H at hP hS ⊢
          have hP : va_P (dC, dI) vwCl [(oR, .inr (4, [.ref aU, .ref aL, .int z_11.1, .int z_11.2.1, .long mi])), (aU, .inl (cJ, 19, .inr (.inl z_11.2.2.1))), (aL, .inl (cJ, 19, .inr (.inl z_11.2.2.2)))] H := hP
          have hD : va_D A [(oR, .inr (4, [.ref aU, .ref aL, .int z_11.1, .int z_11.2.1, .long mi])), (aU, .inl (cJ, 19, .inr (.inl z_11.2.2.1))), (aL, .inl (cJ, 19, .inr (.inl z_11.2.2.2)))] := hD
          refine lv_goto (tgt := 202) hx hb d_Reckoner_join_165 (by decide) ?_
          have hP9 := hP.sub (ws' := [(oR, .inr (4, [.ref aU, .ref aL, .int z_11.1, .int z_11.2.1, .long mi])), (aU, .inl (cJ, 19, .inr (.inl z_11.2.2.1))), (aL, .inl (cJ, 19, .inr (.inl z_11.2.2.2)))]) [0, 1, 2] rfl
          have hD9 := hD.sub (ws' := [(oR, .inr (4, [.ref aU, .ref aL, .int z_11.1, .int z_11.2.1, .long mi])), (aU, .inl (cJ, 19, .inr (.inl z_11.2.2.1))), (aL, .inl (cJ, 19, .inr (.inl z_11.2.2.2)))]) [0, 1, 2] (by decide) rfl
          exact W.vret hx hb hr (fun t ht hW => ⟨⟨(z_11.1, z_11.2.1, z_11.2.2.1, z_11.2.2.2), rfl, by rw [hF], by rw [ht]; exact hP9, hD9⟩, hS.F ht⟩) hS.2.2 d_Reckoner_join_202
        · have hF := hF.trans (if_neg c_6)
          refine lv_iload_n hx hb d_Reckoner_join_128 rfl (lv_at hl 5 rfl) ?_
          refine lv_bipush (v := 6) hx hb d_Reckoner_join_129 (by decide) ?_
          refine lv_icmp_ne (tgt := 168) hx hb d_Reckoner_join_131 (by decide) (fun c_12 => ?_) (fun c_12 => ?_)
          · have hF := hF.trans (if_neg c_12)
            refine lv_lload hx hb d_Reckoner_join_168 (lv_at hl 1 rfl) ?_
            refine lv_lconst (v := 0) hx hb d_Reckoner_join_170 (by decide) ?_
            refine W.lcmp hx hb d_Reckoner_join_171 ?_
            refine lv_if_ne (tgt := 183) hx hb d_Reckoner_join_172 (by decide) (fun c_13 => ?_) (fun c_13 => ?_)
            · have hF := hF.trans (if_neg c_13)
              refine lv_aload_n hx hb d_Reckoner_join_183 rfl (lv_at hl 4 rfl) ?_
              refine lv_aload_n hx hb d_Reckoner_join_184 rfl (lv_at hl 4 rfl) ?_
              refine lv_lload_n hx hb d_Reckoner_join_185 rfl (lv_at hl 3 rfl) ?_
              refine lv_lload hx hb d_Reckoner_join_186 (lv_at hl 0 rfl) ?_
              have hPc := hP.sub (ws' := [(oR, .inr (4, [.ref aU, .ref aL, .int (pe - 1), .int wy, .long mi])), (aU, .inl (cJ, 19, .inr (.inl ru))), (aL, .inl (cJ, 19, .inr (.inl rl)))]) [0, 1, 2] rfl
              have hDc := hD.sub (ws' := [(oR, .inr (4, [.ref aU, .ref aL, .int (pe - 1), .int wy, .long mi])), (aU, .inl (cJ, 19, .inr (.inl ru))), (aL, .inl (cJ, 19, .inr (.inl rl)))]) [0, 1, 2] (by decide) rfl
              have hFc := va_free (wc := [(oR, .inr (4, [.ref aU, .ref aL, .int (pe - 1), .int wy, .long mi])), (aU, .inl (cJ, 19, .inr (.inl ru))), (aL, .inl (cJ, 19, .inr (.inl rl)))]) hD hS hA [0, 1, 2] rfl
              refine va_calll (va_runV (As := [.long 0, .long z_2]) (rest := [.ref oR]) ⟨hx, hb, hml, hown, htb⟩ (c_Reckoner_product l dC dI cB cI cJ oR aU aL _ 0 z_2 (pe - 1) wy mi ru rl ) ⟨callB_of 2 htb (gb_all mb_558) rfl rfl rfl (htb _ mb_7) (htb _ mb_555) (by decide +kernel) ⟨Nat.le_of_ble_eq_true rfl, Nat.le_of_ble_eq_true rfl⟩, htb _ mb_556, htb _ mb_557⟩ ⟨kb_blind, va_recv hK hPc (ci := 4) (q0 := 0) rfl rfl, kb_at hPc hDc hKx⟩ rfl rfl hl.1 rfl (lv_room (Nat.le_of_ble_eq_true rfl)) d_Reckoner_join_188 ⟨Nat.le_of_ble_eq_true rfl, Nat.le_of_ble_eq_true rfl⟩) hS (fun q _ h => hFc q h) hFc (fun r u t H1 locs ht hvm hw hB hz1 hk1 hS => ?_)
              obtain ⟨z_14, hzz_14⟩ : ∃ z, z = f_Reckoner_product 0 z_2 wy := ⟨_, rfl⟩
              rw [← hzz_14] at hw
              obtain ⟨rfl, rfl⟩ := hw
              have hF := hF.trans (lt_e hzz_14)
              obtain ⟨hP1, hD1⟩ := hB
              rw [ht] at hP1
              obtain ⟨hP, hD⟩ := va_join (wr := []) (w1 := [(oR, .inr (4, [.ref aU, .ref aL, .int (pe - 1), .int z_14.2, .long mi])), (aU, .inl (cJ, 19, .inr (.inl ru))), (aL, .inl (cJ, 19, .inr (.inl rl)))]) hP hD [0, 1, 2] [] rfl rfl (by decide) (by decide) hk1 hFc hP1 hD1
              generalize H1 = H at hP hS ⊢
              have hP : va_P (dC, dI) vwCl [(oR, .inr (4, [.ref aU, .ref aL, .int (pe - 1), .int z_14.2, .long mi])), (aU, .inl (cJ, 19, .inr (.inl ru))), (aL, .inl (cJ, 19, .inr (.inl rl)))] H := hP
              have hD : va_D A [(oR, .inr (4, [.ref aU, .ref aL, .int (pe - 1), .int z_14.2, .long mi])), (aU, .inl (cJ, 19, .inr (.inl ru))), (aL, .inl (cJ, 19, .inr (.inl rl)))] := hD
              refine lv_aload_n hx hb d_Reckoner_join_191 rfl (lv_at hl 4 rfl) ?_
              refine lv_lload hx hb d_Reckoner_join_192 (lv_at hl 2 rfl) ?_
              refine lv_lload hx hb d_Reckoner_join_194 (lv_at hl 1 rfl) ?_
              have hPc := hP.sub (ws' := [(oR, .inr (4, [.ref aU, .ref aL, .int (pe - 1), .int z_14.2, .long mi])), (aU, .inl (cJ, 19, .inr (.inl ru))), (aL, .inl (cJ, 19, .inr (.inl rl)))]) [0, 1, 2] rfl
              have hDc := hD.sub (ws' := [(oR, .inr (4, [.ref aU, .ref aL, .int (pe - 1), .int z_14.2, .long mi])), (aU, .inl (cJ, 19, .inr (.inl ru))), (aL, .inl (cJ, 19, .inr (.inl rl)))]) [0, 1, 2] (by decide) rfl
              have hFc := va_free (wc := [(oR, .inr (4, [.ref aU, .ref aL, .int (pe - 1), .int z_14.2, .long mi])), (aU, .inl (cJ, 19, .inr (.inl ru))), (aL, .inl (cJ, 19, .inr (.inl rl)))]) hD hS hA [0, 1, 2] rfl
              refine va_calll (va_runV (As := [.long 1, .long z_1]) (rest := [.long z_14.1, .ref oR]) ⟨hx, hb, hml, hown, htb⟩ (c_Reckoner_product l dC dI cB cI cJ oR aU aL _ 1 z_1 (pe - 1) z_14.2 mi ru rl ) ⟨callB_of 2 htb (gb_all mb_558) rfl rfl rfl (htb _ mb_7) (htb _ mb_555) (by decide +kernel) ⟨Nat.le_of_ble_eq_true rfl, Nat.le_of_ble_eq_true rfl⟩, htb _ mb_556, htb _ mb_557⟩ ⟨kb_blind, va_recv hK hPc (ci := 4) (q0 := 0) rfl rfl, kb_at hPc hDc hKx⟩ rfl rfl hl.1 rfl (lv_room (Nat.le_of_ble_eq_true rfl)) d_Reckoner_join_196 ⟨Nat.le_of_ble_eq_true rfl, Nat.le_of_ble_eq_true rfl⟩) hS (fun q _ h => hFc q h) hFc (fun r u t H1 locs ht hvm hw hB hz1 hk1 hS => ?_)
              obtain ⟨z_15, hzz_15⟩ : ∃ z, z = f_Reckoner_product 1 z_1 z_14.2 := ⟨_, rfl⟩
              rw [← hzz_15] at hw
              obtain ⟨rfl, rfl⟩ := hw
              have hF := hF.trans (lt_e hzz_15)
              obtain ⟨hP1, hD1⟩ := hB
              rw [ht] at hP1
              obtain ⟨hP, hD⟩ := va_join (wr := []) (w1 := [(oR, .inr (4, [.ref aU, .ref aL, .int (pe - 1), .int z_15.2, .long mi])), (aU, .inl (cJ, 19, .inr (.inl ru))), (aL, .inl (cJ, 19, .inr (.inl rl)))]) hP hD [0, 1, 2] [] rfl rfl (by decide) (by decide) hk1 hFc hP1 hD1
              generalize H1 = H at hP hS ⊢
              have hP : va_P (dC, dI) vwCl [(oR, .inr (4, [.ref aU, .ref aL, .int (pe - 1), .int z_15.2, .long mi])), (aU, .inl (cJ, 19, .inr (.inl ru))), (aL, .inl (cJ, 19, .inr (.inl rl)))] H := hP
              have hD : va_D A [(oR, .inr (4, [.ref aU, .ref aL, .int (pe - 1), .int z_15.2, .long mi])), (aU, .inl (cJ, 19, .inr (.inl ru))), (aL, .inl (cJ, 19, .inr (.inl rl)))] := hD
              have hPc := hP.sub (ws' := [(oR, .inr (4, [.ref aU, .ref aL, .int (pe - 1), .int z_15.2, .long mi])), (aU, .inl (cJ, 19, .inr (.inl ru))), (aL, .inl (cJ, 19, .inr (.inl rl)))]) [0, 1, 2] rfl
              have hDc := hD.sub (ws' := [(oR, .inr (4, [.ref aU, .ref aL, .int (pe - 1), .int z_15.2, .long mi])), (aU, .inl (cJ, 19, .inr (.inl ru))), (aL, .inl (cJ, 19, .inr (.inl rl)))]) [0, 1, 2] (by decide) rfl
              have hFc := va_free (wc := [(oR, .inr (4, [.ref aU, .ref aL, .int (pe - 1), .int z_15.2, .long mi])), (aU, .inl (cJ, 19, .inr (.inl ru))), (aL, .inl (cJ, 19, .inr (.inl rl)))]) hD hS hA [0, 1, 2] rfl
              refine va_callv (va_runV (As := [.long z_14.1, .long z_15.1]) (rest := []) ⟨hx, hb, hml, hown, htb⟩ (c_Reckoner_settle l dC dI cB cI cJ oR aU aL _ z_14.1 z_15.1 (pe - 1) z_15.2 mi ru rl ) ⟨callB_of 2 htb (gb_all mb_564) rfl rfl rfl (htb _ mb_7) (htb _ mb_561) (by decide +kernel) ⟨Nat.le_of_ble_eq_true rfl, Nat.le_of_ble_eq_true rfl⟩, htb _ mb_563, htb _ mp_10⟩ ⟨kb_blind, va_recv hK hPc (ci := 4) (q0 := 0) rfl rfl, kb_at hPc hDc hKx⟩ rfl rfl hl.1 rfl (lv_room (Nat.le_of_ble_eq_true rfl)) d_Reckoner_join_199 ⟨Nat.le_of_ble_eq_true rfl, Nat.le_of_ble_eq_true rfl⟩) hS (fun q _ h => hFc q h) hFc (fun z_16 t H1 locs ht hvm hw hB hz1 hk1 hS => ?_)
              have hz_16 := hw
              have hF := hF.trans (lt_e hz_16)
              obtain ⟨hP1, hD1⟩ := hB
              rw [ht] at hP1
              obtain ⟨hP, hD⟩ := va_join (wr := []) (w1 := [(oR, .inr (4, [.ref aU, .ref aL, .int z_16.1, .int z_16.2.1, .long mi])), (aU, .inl (cJ, 19, .inr (.inl z_16.2.2.1))), (aL, .inl (cJ, 19, .inr (.inl z_16.2.2.2)))]) hP hD [0, 1, 2] [] rfl rfl (by decide) (by decide) hk1 hFc hP1 hD1
              generalize H1 = H at hP hS ⊢
              have hP : va_P (dC, dI) vwCl [(oR, .inr (4, [.ref aU, .ref aL, .int z_16.1, .int z_16.2.1, .long mi])), (aU, .inl (cJ, 19, .inr (.inl z_16.2.2.1))), (aL, .inl (cJ, 19, .inr (.inl z_16.2.2.2)))] H := hP
              have hD : va_D A [(oR, .inr (4, [.ref aU, .ref aL, .int z_16.1, .int z_16.2.1, .long mi])), (aU, .inl (cJ, 19, .inr (.inl z_16.2.2.1))), (aL, .inl (cJ, 19, .inr (.inl z_16.2.2.2)))] := hD
              have hP9 := hP.sub (ws' := [(oR, .inr (4, [.ref aU, .ref aL, .int z_16.1, .int z_16.2.1, .long mi])), (aU, .inl (cJ, 19, .inr (.inl z_16.2.2.1))), (aL, .inl (cJ, 19, .inr (.inl z_16.2.2.2)))]) [0, 1, 2] rfl
              have hD9 := hD.sub (ws' := [(oR, .inr (4, [.ref aU, .ref aL, .int z_16.1, .int z_16.2.1, .long mi])), (aU, .inl (cJ, 19, .inr (.inl z_16.2.2.1))), (aL, .inl (cJ, 19, .inr (.inl z_16.2.2.2)))]) [0, 1, 2] (by decide) rfl
              exact W.vret hx hb hr (fun t ht hW => ⟨⟨(z_16.1, z_16.2.1, z_16.2.2.1, z_16.2.2.2), rfl, by rw [hF], by rw [ht]; exact hP9, hD9⟩, hS.F ht⟩) hS.2.2 d_Reckoner_join_202
            · have hF := hF.trans (if_pos c_13)
              refine lv_aload_n hx hb d_Reckoner_join_175 rfl (lv_at hl 4 rfl) ?_
              refine lv_iconst (v := 3) hx hb d_Reckoner_join_176 (by decide) ?_
              refine va_put (D := (dC, dI)) (ci := 4) (v := .int 3) (ty := .int) (C := "PermitRules$Reckoner") (T := T_Reckoner) (N := 5) hx hb htb in_Reckoner ty_Reckoner to_Reckoner nm_Reckoner hown hK hP hD hS 0 rfl rfl 3 (by decide) (htb _ mb_101) (fun _ h9 => h9) rfl (by decide +kernel) rfl rfl (Nat.le_of_ble_eq_true rfl) d_Reckoner_join_177 (fun H locs hP hD hS => ?_)
              have hP : va_P (dC, dI) vwCl [(oR, .inr (4, [.ref aU, .ref aL, .int (pe - 1), .int 3, .long mi])), (aU, .inl (cJ, 19, .inr (.inl ru))), (aL, .inl (cJ, 19, .inr (.inl rl)))] H := hP
              have hD : va_D A [(oR, .inr (4, [.ref aU, .ref aL, .int (pe - 1), .int 3, .long mi])), (aU, .inl (cJ, 19, .inr (.inl ru))), (aL, .inl (cJ, 19, .inr (.inl rl)))] := hD
              refine lv_goto (tgt := 202) hx hb d_Reckoner_join_180 (by decide) ?_
              have hP9 := hP.sub (ws' := [(oR, .inr (4, [.ref aU, .ref aL, .int (pe - 1), .int 3, .long mi])), (aU, .inl (cJ, 19, .inr (.inl ru))), (aL, .inl (cJ, 19, .inr (.inl rl)))]) [0, 1, 2] rfl
              have hD9 := hD.sub (ws' := [(oR, .inr (4, [.ref aU, .ref aL, .int (pe - 1), .int 3, .long mi])), (aU, .inl (cJ, 19, .inr (.inl ru))), (aL, .inl (cJ, 19, .inr (.inl rl)))]) [0, 1, 2] (by decide) rfl
              exact W.vret hx hb hr (fun t ht hW => ⟨⟨(pe - 1, 3, ru, rl), rfl, by rw [hF], by rw [ht]; exact hP9, hD9⟩, hS.F ht⟩) hS.2.2 d_Reckoner_join_202
          · have hF := hF.trans (if_pos c_12)
            refine lv_aload_n hx hb d_Reckoner_join_134 rfl (lv_at hl 4 rfl) ?_
            refine lv_aload_n hx hb d_Reckoner_join_135 rfl (lv_at hl 4 rfl) ?_
            refine lv_aload_n hx hb d_Reckoner_join_136 rfl (lv_at hl 4 rfl) ?_
            refine lv_lload_n hx hb d_Reckoner_join_137 rfl (lv_at hl 3 rfl) ?_
            refine lv_lload hx hb d_Reckoner_join_138 (lv_at hl 0 rfl) ?_
            have hPc := hP.sub (ws' := [(oR, .inr (4, [.ref aU, .ref aL, .int (pe - 1), .int wy, .long mi])), (aU, .inl (cJ, 19, .inr (.inl ru))), (aL, .inl (cJ, 19, .inr (.inl rl)))]) [0, 1, 2] rfl
            have hDc := hD.sub (ws' := [(oR, .inr (4, [.ref aU, .ref aL, .int (pe - 1), .int wy, .long mi])), (aU, .inl (cJ, 19, .inr (.inl ru))), (aL, .inl (cJ, 19, .inr (.inl rl)))]) [0, 1, 2] (by decide) rfl
            have hFc := va_free (wc := [(oR, .inr (4, [.ref aU, .ref aL, .int (pe - 1), .int wy, .long mi])), (aU, .inl (cJ, 19, .inr (.inl ru))), (aL, .inl (cJ, 19, .inr (.inl rl)))]) hD hS hA [0, 1, 2] rfl
            refine va_calll (va_runV (As := [.long 0, .long z_2]) (rest := [.ref oR, .ref oR]) ⟨hx, hb, hml, hown, htb⟩ (c_Reckoner_product l dC dI cB cI cJ oR aU aL _ 0 z_2 (pe - 1) wy mi ru rl ) ⟨callB_of 2 htb (gb_all mb_558) rfl rfl rfl (htb _ mb_7) (htb _ mb_555) (by decide +kernel) ⟨Nat.le_of_ble_eq_true rfl, Nat.le_of_ble_eq_true rfl⟩, htb _ mb_556, htb _ mb_557⟩ ⟨kb_blind, va_recv hK hPc (ci := 4) (q0 := 0) rfl rfl, kb_at hPc hDc hKx⟩ rfl rfl hl.1 rfl (lv_room (Nat.le_of_ble_eq_true rfl)) d_Reckoner_join_140 ⟨Nat.le_of_ble_eq_true rfl, Nat.le_of_ble_eq_true rfl⟩) hS (fun q _ h => hFc q h) hFc (fun r u t H1 locs ht hvm hw hB hz1 hk1 hS => ?_)
            obtain ⟨z_17, hzz_17⟩ : ∃ z, z = f_Reckoner_product 0 z_2 wy := ⟨_, rfl⟩
            rw [← hzz_17] at hw
            obtain ⟨rfl, rfl⟩ := hw
            have hF := hF.trans (lt_e hzz_17)
            obtain ⟨hP1, hD1⟩ := hB
            rw [ht] at hP1
            obtain ⟨hP, hD⟩ := va_join (wr := []) (w1 := [(oR, .inr (4, [.ref aU, .ref aL, .int (pe - 1), .int z_17.2, .long mi])), (aU, .inl (cJ, 19, .inr (.inl ru))), (aL, .inl (cJ, 19, .inr (.inl rl)))]) hP hD [0, 1, 2] [] rfl rfl (by decide) (by decide) hk1 hFc hP1 hD1
            generalize H1 = H at hP hS ⊢
            have hP : va_P (dC, dI) vwCl [(oR, .inr (4, [.ref aU, .ref aL, .int (pe - 1), .int z_17.2, .long mi])), (aU, .inl (cJ, 19, .inr (.inl ru))), (aL, .inl (cJ, 19, .inr (.inl rl)))] H := hP
            have hD : va_D A [(oR, .inr (4, [.ref aU, .ref aL, .int (pe - 1), .int z_17.2, .long mi])), (aU, .inl (cJ, 19, .inr (.inl ru))), (aL, .inl (cJ, 19, .inr (.inl rl)))] := hD
            refine lv_aload_n hx hb d_Reckoner_join_143 rfl (lv_at hl 4 rfl) ?_
            refine lv_lload hx hb d_Reckoner_join_144 (lv_at hl 1 rfl) ?_
            refine lv_lload hx hb d_Reckoner_join_146 (lv_at hl 2 rfl) ?_
            have hPc := hP.sub (ws' := [(oR, .inr (4, [.ref aU, .ref aL, .int (pe - 1), .int z_17.2, .long mi])), (aU, .inl (cJ, 19, .inr (.inl ru))), (aL, .inl (cJ, 19, .inr (.inl rl)))]) [0, 1, 2] rfl
            have hDc := hD.sub (ws' := [(oR, .inr (4, [.ref aU, .ref aL, .int (pe - 1), .int z_17.2, .long mi])), (aU, .inl (cJ, 19, .inr (.inl ru))), (aL, .inl (cJ, 19, .inr (.inl rl)))]) [0, 1, 2] (by decide) rfl
            have hFc := va_free (wc := [(oR, .inr (4, [.ref aU, .ref aL, .int (pe - 1), .int z_17.2, .long mi])), (aU, .inl (cJ, 19, .inr (.inl ru))), (aL, .inl (cJ, 19, .inr (.inl rl)))]) hD hS hA [0, 1, 2] rfl
            refine va_calll (va_runV (As := [.long z_1, .long 1]) (rest := [.long z_17.1, .ref oR, .ref oR]) ⟨hx, hb, hml, hown, htb⟩ (c_Reckoner_product l dC dI cB cI cJ oR aU aL _ z_1 1 (pe - 1) z_17.2 mi ru rl ) ⟨callB_of 2 htb (gb_all mb_558) rfl rfl rfl (htb _ mb_7) (htb _ mb_555) (by decide +kernel) ⟨Nat.le_of_ble_eq_true rfl, Nat.le_of_ble_eq_true rfl⟩, htb _ mb_556, htb _ mb_557⟩ ⟨kb_blind, va_recv hK hPc (ci := 4) (q0 := 0) rfl rfl, kb_at hPc hDc hKx⟩ rfl rfl hl.1 rfl (lv_room (Nat.le_of_ble_eq_true rfl)) d_Reckoner_join_148 ⟨Nat.le_of_ble_eq_true rfl, Nat.le_of_ble_eq_true rfl⟩) hS (fun q _ h => hFc q h) hFc (fun r u t H1 locs ht hvm hw hB hz1 hk1 hS => ?_)
            obtain ⟨z_18, hzz_18⟩ : ∃ z, z = f_Reckoner_product z_1 1 z_17.2 := ⟨_, rfl⟩
            rw [← hzz_18] at hw
            obtain ⟨rfl, rfl⟩ := hw
            have hF := hF.trans (lt_e hzz_18)
            obtain ⟨hP1, hD1⟩ := hB
            rw [ht] at hP1
            obtain ⟨hP, hD⟩ := va_join (wr := []) (w1 := [(oR, .inr (4, [.ref aU, .ref aL, .int (pe - 1), .int z_18.2, .long mi])), (aU, .inl (cJ, 19, .inr (.inl ru))), (aL, .inl (cJ, 19, .inr (.inl rl)))]) hP hD [0, 1, 2] [] rfl rfl (by decide) (by decide) hk1 hFc hP1 hD1
            generalize H1 = H at hP hS ⊢
            have hP : va_P (dC, dI) vwCl [(oR, .inr (4, [.ref aU, .ref aL, .int (pe - 1), .int z_18.2, .long mi])), (aU, .inl (cJ, 19, .inr (.inl ru))), (aL, .inl (cJ, 19, .inr (.inl rl)))] H := hP
            have hD : va_D A [(oR, .inr (4, [.ref aU, .ref aL, .int (pe - 1), .int z_18.2, .long mi])), (aU, .inl (cJ, 19, .inr (.inl ru))), (aL, .inl (cJ, 19, .inr (.inl rl)))] := hD
            have hPc := hP.sub (ws' := [(oR, .inr (4, [.ref aU, .ref aL, .int (pe - 1), .int z_18.2, .long mi])), (aU, .inl (cJ, 19, .inr (.inl ru))), (aL, .inl (cJ, 19, .inr (.inl rl)))]) [0, 1, 2] rfl
            have hDc := hD.sub (ws' := [(oR, .inr (4, [.ref aU, .ref aL, .int (pe - 1), .int z_18.2, .long mi])), (aU, .inl (cJ, 19, .inr (.inl ru))), (aL, .inl (cJ, 19, .inr (.inl rl)))]) [0, 1, 2] (by decide) rfl
            have hFc := va_free (wc := [(oR, .inr (4, [.ref aU, .ref aL, .int (pe - 1), .int z_18.2, .long mi])), (aU, .inl (cJ, 19, .inr (.inl ru))), (aL, .inl (cJ, 19, .inr (.inl rl)))]) hD hS hA [0, 1, 2] rfl
            refine va_calll (va_runV (As := [.long z_17.1, .long z_18.1]) (rest := [.ref oR]) ⟨hx, hb, hml, hown, htb⟩ (c_Reckoner_difference l dC dI cB cI cJ oR aU aL _ z_17.1 z_18.1 (pe - 1) z_18.2 mi ru rl ) ⟨callB_of 2 htb (gb_all mb_575) rfl rfl rfl (htb _ mb_7) (htb _ mb_572) (by decide +kernel) ⟨Nat.le_of_ble_eq_true rfl, Nat.le_of_ble_eq_true rfl⟩, htb _ mb_574, htb _ mp_12⟩ ⟨kb_blind, va_recv hK hPc (ci := 4) (q0 := 0) rfl rfl, kb_at hPc hDc hKx⟩ rfl rfl hl.1 rfl (lv_room (Nat.le_of_ble_eq_true rfl)) d_Reckoner_join_151 ⟨Nat.le_of_ble_eq_true rfl, Nat.le_of_ble_eq_true rfl⟩) hS (fun q _ h => hFc q h) hFc (fun r u t H1 locs ht hvm hw hB hz1 hk1 hS => ?_)
            obtain ⟨z_19, hzz_19⟩ : ∃ z, z = f_Reckoner_difference z_17.1 z_18.1 z_18.2 := ⟨_, rfl⟩
            rw [← hzz_19] at hw
            obtain ⟨rfl, rfl⟩ := hw
            have hF := hF.trans (lt_e hzz_19)
            obtain ⟨hP1, hD1⟩ := hB
            rw [ht] at hP1
            obtain ⟨hP, hD⟩ := va_join (wr := []) (w1 := [(oR, .inr (4, [.ref aU, .ref aL, .int (pe - 1), .int z_19.2, .long mi])), (aU, .inl (cJ, 19, .inr (.inl ru))), (aL, .inl (cJ, 19, .inr (.inl rl)))]) hP hD [0, 1, 2] [] rfl rfl (by decide) (by decide) hk1 hFc hP1 hD1
            generalize H1 = H at hP hS ⊢
            have hP : va_P (dC, dI) vwCl [(oR, .inr (4, [.ref aU, .ref aL, .int (pe - 1), .int z_19.2, .long mi])), (aU, .inl (cJ, 19, .inr (.inl ru))), (aL, .inl (cJ, 19, .inr (.inl rl)))] H := hP
            have hD : va_D A [(oR, .inr (4, [.ref aU, .ref aL, .int (pe - 1), .int z_19.2, .long mi])), (aU, .inl (cJ, 19, .inr (.inl ru))), (aL, .inl (cJ, 19, .inr (.inl rl)))] := hD
            refine lv_aload_n hx hb d_Reckoner_join_154 rfl (lv_at hl 4 rfl) ?_
            refine lv_lload hx hb d_Reckoner_join_155 (lv_at hl 2 rfl) ?_
            refine lv_lload hx hb d_Reckoner_join_157 (lv_at hl 0 rfl) ?_
            have hPc := hP.sub (ws' := [(oR, .inr (4, [.ref aU, .ref aL, .int (pe - 1), .int z_19.2, .long mi])), (aU, .inl (cJ, 19, .inr (.inl ru))), (aL, .inl (cJ, 19, .inr (.inl rl)))]) [0, 1, 2] rfl
            have hDc := hD.sub (ws' := [(oR, .inr (4, [.ref aU, .ref aL, .int (pe - 1), .int z_19.2, .long mi])), (aU, .inl (cJ, 19, .inr (.inl ru))), (aL, .inl (cJ, 19, .inr (.inl rl)))]) [0, 1, 2] (by decide) rfl
            have hFc := va_free (wc := [(oR, .inr (4, [.ref aU, .ref aL, .int (pe - 1), .int z_19.2, .long mi])), (aU, .inl (cJ, 19, .inr (.inl ru))), (aL, .inl (cJ, 19, .inr (.inl rl)))]) hD hS hA [0, 1, 2] rfl
            refine va_calll (va_runV (As := [.long 1, .long z_2]) (rest := [.long z_19.1, .ref oR]) ⟨hx, hb, hml, hown, htb⟩ (c_Reckoner_product l dC dI cB cI cJ oR aU aL _ 1 z_2 (pe - 1) z_19.2 mi ru rl ) ⟨callB_of 2 htb (gb_all mb_558) rfl rfl rfl (htb _ mb_7) (htb _ mb_555) (by decide +kernel) ⟨Nat.le_of_ble_eq_true rfl, Nat.le_of_ble_eq_true rfl⟩, htb _ mb_556, htb _ mb_557⟩ ⟨kb_blind, va_recv hK hPc (ci := 4) (q0 := 0) rfl rfl, kb_at hPc hDc hKx⟩ rfl rfl hl.1 rfl (lv_room (Nat.le_of_ble_eq_true rfl)) d_Reckoner_join_159 ⟨Nat.le_of_ble_eq_true rfl, Nat.le_of_ble_eq_true rfl⟩) hS (fun q _ h => hFc q h) hFc (fun r u t H1 locs ht hvm hw hB hz1 hk1 hS => ?_)
            obtain ⟨z_20, hzz_20⟩ : ∃ z, z = f_Reckoner_product 1 z_2 z_19.2 := ⟨_, rfl⟩
            rw [← hzz_20] at hw
            obtain ⟨rfl, rfl⟩ := hw
            have hF := hF.trans (lt_e hzz_20)
            obtain ⟨hP1, hD1⟩ := hB
            rw [ht] at hP1
            obtain ⟨hP, hD⟩ := va_join (wr := []) (w1 := [(oR, .inr (4, [.ref aU, .ref aL, .int (pe - 1), .int z_20.2, .long mi])), (aU, .inl (cJ, 19, .inr (.inl ru))), (aL, .inl (cJ, 19, .inr (.inl rl)))]) hP hD [0, 1, 2] [] rfl rfl (by decide) (by decide) hk1 hFc hP1 hD1
            generalize H1 = H at hP hS ⊢
            have hP : va_P (dC, dI) vwCl [(oR, .inr (4, [.ref aU, .ref aL, .int (pe - 1), .int z_20.2, .long mi])), (aU, .inl (cJ, 19, .inr (.inl ru))), (aL, .inl (cJ, 19, .inr (.inl rl)))] H := hP
            have hD : va_D A [(oR, .inr (4, [.ref aU, .ref aL, .int (pe - 1), .int z_20.2, .long mi])), (aU, .inl (cJ, 19, .inr (.inl ru))), (aL, .inl (cJ, 19, .inr (.inl rl)))] := hD
            have hPc := hP.sub (ws' := [(oR, .inr (4, [.ref aU, .ref aL, .int (pe - 1), .int z_20.2, .long mi])), (aU, .inl (cJ, 19, .inr (.inl ru))), (aL, .inl (cJ, 19, .inr (.inl rl)))]) [0, 1, 2] rfl
            have hDc := hD.sub (ws' := [(oR, .inr (4, [.ref aU, .ref aL, .int (pe - 1), .int z_20.2, .long mi])), (aU, .inl (cJ, 19, .inr (.inl ru))), (aL, .inl (cJ, 19, .inr (.inl rl)))]) [0, 1, 2] (by decide) rfl
            have hFc := va_free (wc := [(oR, .inr (4, [.ref aU, .ref aL, .int (pe - 1), .int z_20.2, .long mi])), (aU, .inl (cJ, 19, .inr (.inl ru))), (aL, .inl (cJ, 19, .inr (.inl rl)))]) hD hS hA [0, 1, 2] rfl
            refine va_callv (va_runV (As := [.long z_19.1, .long z_20.1]) (rest := []) ⟨hx, hb, hml, hown, htb⟩ (c_Reckoner_settle l dC dI cB cI cJ oR aU aL _ z_19.1 z_20.1 (pe - 1) z_20.2 mi ru rl ) ⟨callB_of 2 htb (gb_all mb_564) rfl rfl rfl (htb _ mb_7) (htb _ mb_561) (by decide +kernel) ⟨Nat.le_of_ble_eq_true rfl, Nat.le_of_ble_eq_true rfl⟩, htb _ mb_563, htb _ mp_10⟩ ⟨kb_blind, va_recv hK hPc (ci := 4) (q0 := 0) rfl rfl, kb_at hPc hDc hKx⟩ rfl rfl hl.1 rfl (lv_room (Nat.le_of_ble_eq_true rfl)) d_Reckoner_join_162 ⟨Nat.le_of_ble_eq_true rfl, Nat.le_of_ble_eq_true rfl⟩) hS (fun q _ h => hFc q h) hFc (fun z_21 t H1 locs ht hvm hw hB hz1 hk1 hS => ?_)
            have hz_21 := hw
            have hF := hF.trans (lt_e hz_21)
            obtain ⟨hP1, hD1⟩ := hB
            rw [ht] at hP1
            obtain ⟨hP, hD⟩ := va_join (wr := []) (w1 := [(oR, .inr (4, [.ref aU, .ref aL, .int z_21.1, .int z_21.2.1, .long mi])), (aU, .inl (cJ, 19, .inr (.inl z_21.2.2.1))), (aL, .inl (cJ, 19, .inr (.inl z_21.2.2.2)))]) hP hD [0, 1, 2] [] rfl rfl (by decide) (by decide) hk1 hFc hP1 hD1
            generalize H1 = H at hP hS ⊢
            have hP : va_P (dC, dI) vwCl [(oR, .inr (4, [.ref aU, .ref aL, .int z_21.1, .int z_21.2.1, .long mi])), (aU, .inl (cJ, 19, .inr (.inl z_21.2.2.1))), (aL, .inl (cJ, 19, .inr (.inl z_21.2.2.2)))] H := hP
            have hD : va_D A [(oR, .inr (4, [.ref aU, .ref aL, .int z_21.1, .int z_21.2.1, .long mi])), (aU, .inl (cJ, 19, .inr (.inl z_21.2.2.1))), (aL, .inl (cJ, 19, .inr (.inl z_21.2.2.2)))] := hD
            refine lv_goto (tgt := 202) hx hb d_Reckoner_join_165 (by decide) ?_
            have hP9 := hP.sub (ws' := [(oR, .inr (4, [.ref aU, .ref aL, .int z_21.1, .int z_21.2.1, .long mi])), (aU, .inl (cJ, 19, .inr (.inl z_21.2.2.1))), (aL, .inl (cJ, 19, .inr (.inl z_21.2.2.2)))]) [0, 1, 2] rfl
            have hD9 := hD.sub (ws' := [(oR, .inr (4, [.ref aU, .ref aL, .int z_21.1, .int z_21.2.1, .long mi])), (aU, .inl (cJ, 19, .inr (.inl z_21.2.2.1))), (aL, .inl (cJ, 19, .inr (.inl z_21.2.2.2)))]) [0, 1, 2] (by decide) rfl
            exact W.vret hx hb hr (fun t ht hW => ⟨⟨(z_21.1, z_21.2.1, z_21.2.2.1, z_21.2.2.2), rfl, by rw [hF], by rw [ht]; exact hP9, hD9⟩, hS.F ht⟩) hS.2.2 d_Reckoner_join_202
      · have hF := hF.trans (if_pos c_5)
        refine lv_aload_n hx hb d_Reckoner_join_88 rfl (lv_at hl 4 rfl) ?_
        refine lv_aload_n hx hb d_Reckoner_join_89 rfl (lv_at hl 4 rfl) ?_
        refine lv_aload_n hx hb d_Reckoner_join_90 rfl (lv_at hl 4 rfl) ?_
        refine lv_lload_n hx hb d_Reckoner_join_91 rfl (lv_at hl 3 rfl) ?_
        refine lv_lload hx hb d_Reckoner_join_92 (lv_at hl 0 rfl) ?_
        have hPc := hP.sub (ws' := [(oR, .inr (4, [.ref aU, .ref aL, .int (pe - 1), .int wy, .long mi])), (aU, .inl (cJ, 19, .inr (.inl ru))), (aL, .inl (cJ, 19, .inr (.inl rl)))]) [0, 1, 2] rfl
        have hDc := hD.sub (ws' := [(oR, .inr (4, [.ref aU, .ref aL, .int (pe - 1), .int wy, .long mi])), (aU, .inl (cJ, 19, .inr (.inl ru))), (aL, .inl (cJ, 19, .inr (.inl rl)))]) [0, 1, 2] (by decide) rfl
        have hFc := va_free (wc := [(oR, .inr (4, [.ref aU, .ref aL, .int (pe - 1), .int wy, .long mi])), (aU, .inl (cJ, 19, .inr (.inl ru))), (aL, .inl (cJ, 19, .inr (.inl rl)))]) hD hS hA [0, 1, 2] rfl
        refine va_calll (va_runV (As := [.long 0, .long z_2]) (rest := [.ref oR, .ref oR]) ⟨hx, hb, hml, hown, htb⟩ (c_Reckoner_product l dC dI cB cI cJ oR aU aL _ 0 z_2 (pe - 1) wy mi ru rl ) ⟨callB_of 2 htb (gb_all mb_558) rfl rfl rfl (htb _ mb_7) (htb _ mb_555) (by decide +kernel) ⟨Nat.le_of_ble_eq_true rfl, Nat.le_of_ble_eq_true rfl⟩, htb _ mb_556, htb _ mb_557⟩ ⟨kb_blind, va_recv hK hPc (ci := 4) (q0 := 0) rfl rfl, kb_at hPc hDc hKx⟩ rfl rfl hl.1 rfl (lv_room (Nat.le_of_ble_eq_true rfl)) d_Reckoner_join_94 ⟨Nat.le_of_ble_eq_true rfl, Nat.le_of_ble_eq_true rfl⟩) hS (fun q _ h => hFc q h) hFc (fun r u t H1 locs ht hvm hw hB hz1 hk1 hS => ?_)
        obtain ⟨z_22, hzz_22⟩ : ∃ z, z = f_Reckoner_product 0 z_2 wy := ⟨_, rfl⟩
        rw [← hzz_22] at hw
        obtain ⟨rfl, rfl⟩ := hw
        have hF := hF.trans (lt_e hzz_22)
        obtain ⟨hP1, hD1⟩ := hB
        rw [ht] at hP1
        obtain ⟨hP, hD⟩ := va_join (wr := []) (w1 := [(oR, .inr (4, [.ref aU, .ref aL, .int (pe - 1), .int z_22.2, .long mi])), (aU, .inl (cJ, 19, .inr (.inl ru))), (aL, .inl (cJ, 19, .inr (.inl rl)))]) hP hD [0, 1, 2] [] rfl rfl (by decide) (by decide) hk1 hFc hP1 hD1
        generalize H1 = H at hP hS ⊢
        have hP : va_P (dC, dI) vwCl [(oR, .inr (4, [.ref aU, .ref aL, .int (pe - 1), .int z_22.2, .long mi])), (aU, .inl (cJ, 19, .inr (.inl ru))), (aL, .inl (cJ, 19, .inr (.inl rl)))] H := hP
        have hD : va_D A [(oR, .inr (4, [.ref aU, .ref aL, .int (pe - 1), .int z_22.2, .long mi])), (aU, .inl (cJ, 19, .inr (.inl ru))), (aL, .inl (cJ, 19, .inr (.inl rl)))] := hD
        refine lv_aload_n hx hb d_Reckoner_join_97 rfl (lv_at hl 4 rfl) ?_
        refine lv_lload hx hb d_Reckoner_join_98 (lv_at hl 1 rfl) ?_
        refine lv_lload hx hb d_Reckoner_join_100 (lv_at hl 2 rfl) ?_
        have hPc := hP.sub (ws' := [(oR, .inr (4, [.ref aU, .ref aL, .int (pe - 1), .int z_22.2, .long mi])), (aU, .inl (cJ, 19, .inr (.inl ru))), (aL, .inl (cJ, 19, .inr (.inl rl)))]) [0, 1, 2] rfl
        have hDc := hD.sub (ws' := [(oR, .inr (4, [.ref aU, .ref aL, .int (pe - 1), .int z_22.2, .long mi])), (aU, .inl (cJ, 19, .inr (.inl ru))), (aL, .inl (cJ, 19, .inr (.inl rl)))]) [0, 1, 2] (by decide) rfl
        have hFc := va_free (wc := [(oR, .inr (4, [.ref aU, .ref aL, .int (pe - 1), .int z_22.2, .long mi])), (aU, .inl (cJ, 19, .inr (.inl ru))), (aL, .inl (cJ, 19, .inr (.inl rl)))]) hD hS hA [0, 1, 2] rfl
        refine va_calll (va_runV (As := [.long z_1, .long 1]) (rest := [.long z_22.1, .ref oR, .ref oR]) ⟨hx, hb, hml, hown, htb⟩ (c_Reckoner_product l dC dI cB cI cJ oR aU aL _ z_1 1 (pe - 1) z_22.2 mi ru rl ) ⟨callB_of 2 htb (gb_all mb_558) rfl rfl rfl (htb _ mb_7) (htb _ mb_555) (by decide +kernel) ⟨Nat.le_of_ble_eq_true rfl, Nat.le_of_ble_eq_true rfl⟩, htb _ mb_556, htb _ mb_557⟩ ⟨kb_blind, va_recv hK hPc (ci := 4) (q0 := 0) rfl rfl, kb_at hPc hDc hKx⟩ rfl rfl hl.1 rfl (lv_room (Nat.le_of_ble_eq_true rfl)) d_Reckoner_join_102 ⟨Nat.le_of_ble_eq_true rfl, Nat.le_of_ble_eq_true rfl⟩) hS (fun q _ h => hFc q h) hFc (fun r u t H1 locs ht hvm hw hB hz1 hk1 hS => ?_)
        obtain ⟨z_23, hzz_23⟩ : ∃ z, z = f_Reckoner_product z_1 1 z_22.2 := ⟨_, rfl⟩
        rw [← hzz_23] at hw
        obtain ⟨rfl, rfl⟩ := hw
        have hF := hF.trans (lt_e hzz_23)
        obtain ⟨hP1, hD1⟩ := hB
        rw [ht] at hP1
        obtain ⟨hP, hD⟩ := va_join (wr := []) (w1 := [(oR, .inr (4, [.ref aU, .ref aL, .int (pe - 1), .int z_23.2, .long mi])), (aU, .inl (cJ, 19, .inr (.inl ru))), (aL, .inl (cJ, 19, .inr (.inl rl)))]) hP hD [0, 1, 2] [] rfl rfl (by decide) (by decide) hk1 hFc hP1 hD1
        generalize H1 = H at hP hS ⊢
        have hP : va_P (dC, dI) vwCl [(oR, .inr (4, [.ref aU, .ref aL, .int (pe - 1), .int z_23.2, .long mi])), (aU, .inl (cJ, 19, .inr (.inl ru))), (aL, .inl (cJ, 19, .inr (.inl rl)))] H := hP
        have hD : va_D A [(oR, .inr (4, [.ref aU, .ref aL, .int (pe - 1), .int z_23.2, .long mi])), (aU, .inl (cJ, 19, .inr (.inl ru))), (aL, .inl (cJ, 19, .inr (.inl rl)))] := hD
        have hPc := hP.sub (ws' := [(oR, .inr (4, [.ref aU, .ref aL, .int (pe - 1), .int z_23.2, .long mi])), (aU, .inl (cJ, 19, .inr (.inl ru))), (aL, .inl (cJ, 19, .inr (.inl rl)))]) [0, 1, 2] rfl
        have hDc := hD.sub (ws' := [(oR, .inr (4, [.ref aU, .ref aL, .int (pe - 1), .int z_23.2, .long mi])), (aU, .inl (cJ, 19, .inr (.inl ru))), (aL, .inl (cJ, 19, .inr (.inl rl)))]) [0, 1, 2] (by decide) rfl
        have hFc := va_free (wc := [(oR, .inr (4, [.ref aU, .ref aL, .int (pe - 1), .int z_23.2, .long mi])), (aU, .inl (cJ, 19, .inr (.inl ru))), (aL, .inl (cJ, 19, .inr (.inl rl)))]) hD hS hA [0, 1, 2] rfl
        refine va_calll (va_runV (As := [.long z_22.1, .long z_23.1]) (rest := [.ref oR]) ⟨hx, hb, hml, hown, htb⟩ (c_Reckoner_sum l dC dI cB cI cJ oR aU aL _ z_22.1 z_23.1 (pe - 1) z_23.2 mi ru rl ) ⟨callB_of 2 htb (gb_all mb_571) rfl rfl rfl (htb _ mb_7) (htb _ mb_568) (by decide +kernel) ⟨Nat.le_of_ble_eq_true rfl, Nat.le_of_ble_eq_true rfl⟩, htb _ mb_570, htb _ mp_11⟩ ⟨kb_blind, va_recv hK hPc (ci := 4) (q0 := 0) rfl rfl, kb_at hPc hDc hKx⟩ rfl rfl hl.1 rfl (lv_room (Nat.le_of_ble_eq_true rfl)) d_Reckoner_join_105 ⟨Nat.le_of_ble_eq_true rfl, Nat.le_of_ble_eq_true rfl⟩) hS (fun q _ h => hFc q h) hFc (fun r u t H1 locs ht hvm hw hB hz1 hk1 hS => ?_)
        obtain ⟨z_24, hzz_24⟩ : ∃ z, z = f_Reckoner_sum z_22.1 z_23.1 z_23.2 := ⟨_, rfl⟩
        rw [← hzz_24] at hw
        obtain ⟨rfl, rfl⟩ := hw
        have hF := hF.trans (lt_e hzz_24)
        obtain ⟨hP1, hD1⟩ := hB
        rw [ht] at hP1
        obtain ⟨hP, hD⟩ := va_join (wr := []) (w1 := [(oR, .inr (4, [.ref aU, .ref aL, .int (pe - 1), .int z_24.2, .long mi])), (aU, .inl (cJ, 19, .inr (.inl ru))), (aL, .inl (cJ, 19, .inr (.inl rl)))]) hP hD [0, 1, 2] [] rfl rfl (by decide) (by decide) hk1 hFc hP1 hD1
        generalize H1 = H at hP hS ⊢
        have hP : va_P (dC, dI) vwCl [(oR, .inr (4, [.ref aU, .ref aL, .int (pe - 1), .int z_24.2, .long mi])), (aU, .inl (cJ, 19, .inr (.inl ru))), (aL, .inl (cJ, 19, .inr (.inl rl)))] H := hP
        have hD : va_D A [(oR, .inr (4, [.ref aU, .ref aL, .int (pe - 1), .int z_24.2, .long mi])), (aU, .inl (cJ, 19, .inr (.inl ru))), (aL, .inl (cJ, 19, .inr (.inl rl)))] := hD
        refine lv_aload_n hx hb d_Reckoner_join_108 rfl (lv_at hl 4 rfl) ?_
        refine lv_lload hx hb d_Reckoner_join_109 (lv_at hl 2 rfl) ?_
        refine lv_lload hx hb d_Reckoner_join_111 (lv_at hl 0 rfl) ?_
        have hPc := hP.sub (ws' := [(oR, .inr (4, [.ref aU, .ref aL, .int (pe - 1), .int z_24.2, .long mi])), (aU, .inl (cJ, 19, .inr (.inl ru))), (aL, .inl (cJ, 19, .inr (.inl rl)))]) [0, 1, 2] rfl
        have hDc := hD.sub (ws' := [(oR, .inr (4, [.ref aU, .ref aL, .int (pe - 1), .int z_24.2, .long mi])), (aU, .inl (cJ, 19, .inr (.inl ru))), (aL, .inl (cJ, 19, .inr (.inl rl)))]) [0, 1, 2] (by decide) rfl
        have hFc := va_free (wc := [(oR, .inr (4, [.ref aU, .ref aL, .int (pe - 1), .int z_24.2, .long mi])), (aU, .inl (cJ, 19, .inr (.inl ru))), (aL, .inl (cJ, 19, .inr (.inl rl)))]) hD hS hA [0, 1, 2] rfl
        refine va_calll (va_runV (As := [.long 1, .long z_2]) (rest := [.long z_24.1, .ref oR]) ⟨hx, hb, hml, hown, htb⟩ (c_Reckoner_product l dC dI cB cI cJ oR aU aL _ 1 z_2 (pe - 1) z_24.2 mi ru rl ) ⟨callB_of 2 htb (gb_all mb_558) rfl rfl rfl (htb _ mb_7) (htb _ mb_555) (by decide +kernel) ⟨Nat.le_of_ble_eq_true rfl, Nat.le_of_ble_eq_true rfl⟩, htb _ mb_556, htb _ mb_557⟩ ⟨kb_blind, va_recv hK hPc (ci := 4) (q0 := 0) rfl rfl, kb_at hPc hDc hKx⟩ rfl rfl hl.1 rfl (lv_room (Nat.le_of_ble_eq_true rfl)) d_Reckoner_join_113 ⟨Nat.le_of_ble_eq_true rfl, Nat.le_of_ble_eq_true rfl⟩) hS (fun q _ h => hFc q h) hFc (fun r u t H1 locs ht hvm hw hB hz1 hk1 hS => ?_)
        obtain ⟨z_25, hzz_25⟩ : ∃ z, z = f_Reckoner_product 1 z_2 z_24.2 := ⟨_, rfl⟩
        rw [← hzz_25] at hw
        obtain ⟨rfl, rfl⟩ := hw
        have hF := hF.trans (lt_e hzz_25)
        obtain ⟨hP1, hD1⟩ := hB
        rw [ht] at hP1
        obtain ⟨hP, hD⟩ := va_join (wr := []) (w1 := [(oR, .inr (4, [.ref aU, .ref aL, .int (pe - 1), .int z_25.2, .long mi])), (aU, .inl (cJ, 19, .inr (.inl ru))), (aL, .inl (cJ, 19, .inr (.inl rl)))]) hP hD [0, 1, 2] [] rfl rfl (by decide) (by decide) hk1 hFc hP1 hD1
        generalize H1 = H at hP hS ⊢
        have hP : va_P (dC, dI) vwCl [(oR, .inr (4, [.ref aU, .ref aL, .int (pe - 1), .int z_25.2, .long mi])), (aU, .inl (cJ, 19, .inr (.inl ru))), (aL, .inl (cJ, 19, .inr (.inl rl)))] H := hP
        have hD : va_D A [(oR, .inr (4, [.ref aU, .ref aL, .int (pe - 1), .int z_25.2, .long mi])), (aU, .inl (cJ, 19, .inr (.inl ru))), (aL, .inl (cJ, 19, .inr (.inl rl)))] := hD
        have hPc := hP.sub (ws' := [(oR, .inr (4, [.ref aU, .ref aL, .int (pe - 1), .int z_25.2, .long mi])), (aU, .inl (cJ, 19, .inr (.inl ru))), (aL, .inl (cJ, 19, .inr (.inl rl)))]) [0, 1, 2] rfl
        have hDc := hD.sub (ws' := [(oR, .inr (4, [.ref aU, .ref aL, .int (pe - 1), .int z_25.2, .long mi])), (aU, .inl (cJ, 19, .inr (.inl ru))), (aL, .inl (cJ, 19, .inr (.inl rl)))]) [0, 1, 2] (by decide) rfl
        have hFc := va_free (wc := [(oR, .inr (4, [.ref aU, .ref aL, .int (pe - 1), .int z_25.2, .long mi])), (aU, .inl (cJ, 19, .inr (.inl ru))), (aL, .inl (cJ, 19, .inr (.inl rl)))]) hD hS hA [0, 1, 2] rfl
        refine va_callv (va_runV (As := [.long z_24.1, .long z_25.1]) (rest := []) ⟨hx, hb, hml, hown, htb⟩ (c_Reckoner_settle l dC dI cB cI cJ oR aU aL _ z_24.1 z_25.1 (pe - 1) z_25.2 mi ru rl ) ⟨callB_of 2 htb (gb_all mb_564) rfl rfl rfl (htb _ mb_7) (htb _ mb_561) (by decide +kernel) ⟨Nat.le_of_ble_eq_true rfl, Nat.le_of_ble_eq_true rfl⟩, htb _ mb_563, htb _ mp_10⟩ ⟨kb_blind, va_recv hK hPc (ci := 4) (q0 := 0) rfl rfl, kb_at hPc hDc hKx⟩ rfl rfl hl.1 rfl (lv_room (Nat.le_of_ble_eq_true rfl)) d_Reckoner_join_116 ⟨Nat.le_of_ble_eq_true rfl, Nat.le_of_ble_eq_true rfl⟩) hS (fun q _ h => hFc q h) hFc (fun z_26 t H1 locs ht hvm hw hB hz1 hk1 hS => ?_)
        have hz_26 := hw
        have hF := hF.trans (lt_e hz_26)
        obtain ⟨hP1, hD1⟩ := hB
        rw [ht] at hP1
        obtain ⟨hP, hD⟩ := va_join (wr := []) (w1 := [(oR, .inr (4, [.ref aU, .ref aL, .int z_26.1, .int z_26.2.1, .long mi])), (aU, .inl (cJ, 19, .inr (.inl z_26.2.2.1))), (aL, .inl (cJ, 19, .inr (.inl z_26.2.2.2)))]) hP hD [0, 1, 2] [] rfl rfl (by decide) (by decide) hk1 hFc hP1 hD1
        generalize H1 = H at hP hS ⊢
        have hP : va_P (dC, dI) vwCl [(oR, .inr (4, [.ref aU, .ref aL, .int z_26.1, .int z_26.2.1, .long mi])), (aU, .inl (cJ, 19, .inr (.inl z_26.2.2.1))), (aL, .inl (cJ, 19, .inr (.inl z_26.2.2.2)))] H := hP
        have hD : va_D A [(oR, .inr (4, [.ref aU, .ref aL, .int z_26.1, .int z_26.2.1, .long mi])), (aU, .inl (cJ, 19, .inr (.inl z_26.2.2.1))), (aL, .inl (cJ, 19, .inr (.inl z_26.2.2.2)))] := hD
        refine lv_goto (tgt := 202) hx hb d_Reckoner_join_119 (by decide) ?_
        have hP9 := hP.sub (ws' := [(oR, .inr (4, [.ref aU, .ref aL, .int z_26.1, .int z_26.2.1, .long mi])), (aU, .inl (cJ, 19, .inr (.inl z_26.2.2.1))), (aL, .inl (cJ, 19, .inr (.inl z_26.2.2.2)))]) [0, 1, 2] rfl
        have hD9 := hD.sub (ws' := [(oR, .inr (4, [.ref aU, .ref aL, .int z_26.1, .int z_26.2.1, .long mi])), (aU, .inl (cJ, 19, .inr (.inl z_26.2.2.1))), (aL, .inl (cJ, 19, .inr (.inl z_26.2.2.2)))]) [0, 1, 2] (by decide) rfl
        exact W.vret hx hb hr (fun t ht hW => ⟨⟨(z_26.1, z_26.2.1, z_26.2.2.1, z_26.2.2.2), rfl, by rw [hF], by rw [ht]; exact hP9, hD9⟩, hS.F ht⟩) hS.2.2 d_Reckoner_join_202
    · have hF := hF.trans (if_pos c_4)
      refine lv_aload_n hx hb d_Reckoner_join_60 rfl (lv_at hl 4 rfl) ?_
      refine lv_aload_n hx hb d_Reckoner_join_61 rfl (lv_at hl 4 rfl) ?_
      refine lv_lload_n hx hb d_Reckoner_join_62 rfl (lv_at hl 3 rfl) ?_
      refine lv_lload hx hb d_Reckoner_join_63 (lv_at hl 1 rfl) ?_
      have hPc := hP.sub (ws' := [(oR, .inr (4, [.ref aU, .ref aL, .int (pe - 1), .int wy, .long mi])), (aU, .inl (cJ, 19, .inr (.inl ru))), (aL, .inl (cJ, 19, .inr (.inl rl)))]) [0, 1, 2] rfl
      have hDc := hD.sub (ws' := [(oR, .inr (4, [.ref aU, .ref aL, .int (pe - 1), .int wy, .long mi])), (aU, .inl (cJ, 19, .inr (.inl ru))), (aL, .inl (cJ, 19, .inr (.inl rl)))]) [0, 1, 2] (by decide) rfl
      have hFc := va_free (wc := [(oR, .inr (4, [.ref aU, .ref aL, .int (pe - 1), .int wy, .long mi])), (aU, .inl (cJ, 19, .inr (.inl ru))), (aL, .inl (cJ, 19, .inr (.inl rl)))]) hD hS hA [0, 1, 2] rfl
      refine va_calll (va_runV (As := [.long 0, .long z_1]) (rest := [.ref oR]) ⟨hx, hb, hml, hown, htb⟩ (c_Reckoner_product l dC dI cB cI cJ oR aU aL _ 0 z_1 (pe - 1) wy mi ru rl ) ⟨callB_of 2 htb (gb_all mb_558) rfl rfl rfl (htb _ mb_7) (htb _ mb_555) (by decide +kernel) ⟨Nat.le_of_ble_eq_true rfl, Nat.le_of_ble_eq_true rfl⟩, htb _ mb_556, htb _ mb_557⟩ ⟨kb_blind, va_recv hK hPc (ci := 4) (q0 := 0) rfl rfl, kb_at hPc hDc hKx⟩ rfl rfl hl.1 rfl (lv_room (Nat.le_of_ble_eq_true rfl)) d_Reckoner_join_65 ⟨Nat.le_of_ble_eq_true rfl, Nat.le_of_ble_eq_true rfl⟩) hS (fun q _ h => hFc q h) hFc (fun r u t H1 locs ht hvm hw hB hz1 hk1 hS => ?_)
      obtain ⟨z_27, hzz_27⟩ : ∃ z, z = f_Reckoner_product 0 z_1 wy := ⟨_, rfl⟩
      rw [← hzz_27] at hw
      obtain ⟨rfl, rfl⟩ := hw
      have hF := hF.trans (lt_e hzz_27)
      obtain ⟨hP1, hD1⟩ := hB
      rw [ht] at hP1
      obtain ⟨hP, hD⟩ := va_join (wr := []) (w1 := [(oR, .inr (4, [.ref aU, .ref aL, .int (pe - 1), .int z_27.2, .long mi])), (aU, .inl (cJ, 19, .inr (.inl ru))), (aL, .inl (cJ, 19, .inr (.inl rl)))]) hP hD [0, 1, 2] [] rfl rfl (by decide) (by decide) hk1 hFc hP1 hD1
      generalize H1 = H at hP hS ⊢
      have hP : va_P (dC, dI) vwCl [(oR, .inr (4, [.ref aU, .ref aL, .int (pe - 1), .int z_27.2, .long mi])), (aU, .inl (cJ, 19, .inr (.inl ru))), (aL, .inl (cJ, 19, .inr (.inl rl)))] H := hP
      have hD : va_D A [(oR, .inr (4, [.ref aU, .ref aL, .int (pe - 1), .int z_27.2, .long mi])), (aU, .inl (cJ, 19, .inr (.inl ru))), (aL, .inl (cJ, 19, .inr (.inl rl)))] := hD
      refine lv_aload_n hx hb d_Reckoner_join_68 rfl (lv_at hl 4 rfl) ?_
      refine lv_lload hx hb d_Reckoner_join_69 (lv_at hl 2 rfl) ?_
      refine lv_lload hx hb d_Reckoner_join_71 (lv_at hl 0 rfl) ?_
      have hPc := hP.sub (ws' := [(oR, .inr (4, [.ref aU, .ref aL, .int (pe - 1), .int z_27.2, .long mi])), (aU, .inl (cJ, 19, .inr (.inl ru))), (aL, .inl (cJ, 19, .inr (.inl rl)))]) [0, 1, 2] rfl
      have hDc := hD.sub (ws' := [(oR, .inr (4, [.ref aU, .ref aL, .int (pe - 1), .int z_27.2, .long mi])), (aU, .inl (cJ, 19, .inr (.inl ru))), (aL, .inl (cJ, 19, .inr (.inl rl)))]) [0, 1, 2] (by decide) rfl
      have hFc := va_free (wc := [(oR, .inr (4, [.ref aU, .ref aL, .int (pe - 1), .int z_27.2, .long mi])), (aU, .inl (cJ, 19, .inr (.inl ru))), (aL, .inl (cJ, 19, .inr (.inl rl)))]) hD hS hA [0, 1, 2] rfl
      refine va_calll (va_runV (As := [.long 1, .long z_2]) (rest := [.long z_27.1, .ref oR]) ⟨hx, hb, hml, hown, htb⟩ (c_Reckoner_product l dC dI cB cI cJ oR aU aL _ 1 z_2 (pe - 1) z_27.2 mi ru rl ) ⟨callB_of 2 htb (gb_all mb_558) rfl rfl rfl (htb _ mb_7) (htb _ mb_555) (by decide +kernel) ⟨Nat.le_of_ble_eq_true rfl, Nat.le_of_ble_eq_true rfl⟩, htb _ mb_556, htb _ mb_557⟩ ⟨kb_blind, va_recv hK hPc (ci := 4) (q0 := 0) rfl rfl, kb_at hPc hDc hKx⟩ rfl rfl hl.1 rfl (lv_room (Nat.le_of_ble_eq_true rfl)) d_Reckoner_join_73 ⟨Nat.le_of_ble_eq_true rfl, Nat.le_of_ble_eq_true rfl⟩) hS (fun q _ h => hFc q h) hFc (fun r u t H1 locs ht hvm hw hB hz1 hk1 hS => ?_)
      obtain ⟨z_28, hzz_28⟩ : ∃ z, z = f_Reckoner_product 1 z_2 z_27.2 := ⟨_, rfl⟩
      rw [← hzz_28] at hw
      obtain ⟨rfl, rfl⟩ := hw
      have hF := hF.trans (lt_e hzz_28)
      obtain ⟨hP1, hD1⟩ := hB
      rw [ht] at hP1
      obtain ⟨hP, hD⟩ := va_join (wr := []) (w1 := [(oR, .inr (4, [.ref aU, .ref aL, .int (pe - 1), .int z_28.2, .long mi])), (aU, .inl (cJ, 19, .inr (.inl ru))), (aL, .inl (cJ, 19, .inr (.inl rl)))]) hP hD [0, 1, 2] [] rfl rfl (by decide) (by decide) hk1 hFc hP1 hD1
      generalize H1 = H at hP hS ⊢
      have hP : va_P (dC, dI) vwCl [(oR, .inr (4, [.ref aU, .ref aL, .int (pe - 1), .int z_28.2, .long mi])), (aU, .inl (cJ, 19, .inr (.inl ru))), (aL, .inl (cJ, 19, .inr (.inl rl)))] H := hP
      have hD : va_D A [(oR, .inr (4, [.ref aU, .ref aL, .int (pe - 1), .int z_28.2, .long mi])), (aU, .inl (cJ, 19, .inr (.inl ru))), (aL, .inl (cJ, 19, .inr (.inl rl)))] := hD
      have hPc := hP.sub (ws' := [(oR, .inr (4, [.ref aU, .ref aL, .int (pe - 1), .int z_28.2, .long mi])), (aU, .inl (cJ, 19, .inr (.inl ru))), (aL, .inl (cJ, 19, .inr (.inl rl)))]) [0, 1, 2] rfl
      have hDc := hD.sub (ws' := [(oR, .inr (4, [.ref aU, .ref aL, .int (pe - 1), .int z_28.2, .long mi])), (aU, .inl (cJ, 19, .inr (.inl ru))), (aL, .inl (cJ, 19, .inr (.inl rl)))]) [0, 1, 2] (by decide) rfl
      have hFc := va_free (wc := [(oR, .inr (4, [.ref aU, .ref aL, .int (pe - 1), .int z_28.2, .long mi])), (aU, .inl (cJ, 19, .inr (.inl ru))), (aL, .inl (cJ, 19, .inr (.inl rl)))]) hD hS hA [0, 1, 2] rfl
      refine va_callv (va_runV (As := [.long z_27.1, .long z_28.1]) (rest := []) ⟨hx, hb, hml, hown, htb⟩ (c_Reckoner_settle l dC dI cB cI cJ oR aU aL _ z_27.1 z_28.1 (pe - 1) z_28.2 mi ru rl ) ⟨callB_of 2 htb (gb_all mb_564) rfl rfl rfl (htb _ mb_7) (htb _ mb_561) (by decide +kernel) ⟨Nat.le_of_ble_eq_true rfl, Nat.le_of_ble_eq_true rfl⟩, htb _ mb_563, htb _ mp_10⟩ ⟨kb_blind, va_recv hK hPc (ci := 4) (q0 := 0) rfl rfl, kb_at hPc hDc hKx⟩ rfl rfl hl.1 rfl (lv_room (Nat.le_of_ble_eq_true rfl)) d_Reckoner_join_76 ⟨Nat.le_of_ble_eq_true rfl, Nat.le_of_ble_eq_true rfl⟩) hS (fun q _ h => hFc q h) hFc (fun z_29 t H1 locs ht hvm hw hB hz1 hk1 hS => ?_)
      have hz_29 := hw
      have hF := hF.trans (lt_e hz_29)
      obtain ⟨hP1, hD1⟩ := hB
      rw [ht] at hP1
      obtain ⟨hP, hD⟩ := va_join (wr := []) (w1 := [(oR, .inr (4, [.ref aU, .ref aL, .int z_29.1, .int z_29.2.1, .long mi])), (aU, .inl (cJ, 19, .inr (.inl z_29.2.2.1))), (aL, .inl (cJ, 19, .inr (.inl z_29.2.2.2)))]) hP hD [0, 1, 2] [] rfl rfl (by decide) (by decide) hk1 hFc hP1 hD1
      generalize H1 = H at hP hS ⊢
      have hP : va_P (dC, dI) vwCl [(oR, .inr (4, [.ref aU, .ref aL, .int z_29.1, .int z_29.2.1, .long mi])), (aU, .inl (cJ, 19, .inr (.inl z_29.2.2.1))), (aL, .inl (cJ, 19, .inr (.inl z_29.2.2.2)))] H := hP
      have hD : va_D A [(oR, .inr (4, [.ref aU, .ref aL, .int z_29.1, .int z_29.2.1, .long mi])), (aU, .inl (cJ, 19, .inr (.inl z_29.2.2.1))), (aL, .inl (cJ, 19, .inr (.inl z_29.2.2.2)))] := hD
      refine lv_goto (tgt := 202) hx hb d_Reckoner_join_79 (by decide) ?_
      have hP9 := hP.sub (ws' := [(oR, .inr (4, [.ref aU, .ref aL, .int z_29.1, .int z_29.2.1, .long mi])), (aU, .inl (cJ, 19, .inr (.inl z_29.2.2.1))), (aL, .inl (cJ, 19, .inr (.inl z_29.2.2.2)))]) [0, 1, 2] rfl
      have hD9 := hD.sub (ws' := [(oR, .inr (4, [.ref aU, .ref aL, .int z_29.1, .int z_29.2.1, .long mi])), (aU, .inl (cJ, 19, .inr (.inl z_29.2.2.1))), (aL, .inl (cJ, 19, .inr (.inl z_29.2.2.2)))]) [0, 1, 2] (by decide) rfl
      exact W.vret hx hb hr (fun t ht hW => ⟨⟨(z_29.1, z_29.2.1, z_29.2.2.1, z_29.2.2.2), rfl, by rw [hF], by rw [ht]; exact hP9, hD9⟩, hS.F ht⟩) hS.2.2 d_Reckoner_join_202
  · have hF := hF.trans (if_neg c_3)
    refine lv_aload_n hx hb d_Reckoner_join_33 rfl (lv_at hl 4 rfl) ?_
    have hPc := hP.sub (ws' := [(oR, .inr (4, [.ref aU, .ref aL, .int (pe - 1), .int wy, .long mi])), (aU, .inl (cJ, 19, .inr (.inl ru))), (aL, .inl (cJ, 19, .inr (.inl rl)))]) [0, 1, 2] rfl
    have hDc := hD.sub (ws' := [(oR, .inr (4, [.ref aU, .ref aL, .int (pe - 1), .int wy, .long mi])), (aU, .inl (cJ, 19, .inr (.inl ru))), (aL, .inl (cJ, 19, .inr (.inl rl)))]) [0, 1, 2] (by decide) rfl
    have hFc := va_free (wc := [(oR, .inr (4, [.ref aU, .ref aL, .int (pe - 1), .int wy, .long mi])), (aU, .inl (cJ, 19, .inr (.inl ru))), (aL, .inl (cJ, 19, .inr (.inl rl)))]) hD hS hA [0, 1, 2] rfl
    refine va_calll (va_runV (As := []) (rest := []) ⟨hx, hb, hml, hown, htb⟩ (c_Reckoner_upper l dC dI cB cI cJ oR aU aL _ (pe - 1) wy mi ru rl ) ⟨callB_of 0 htb (gb_all mb_550) rfl rfl rfl (htb _ mb_7) (htb _ mb_547) (by decide +kernel) ⟨Nat.le_of_ble_eq_true rfl, Nat.le_of_ble_eq_true rfl⟩, htb _ mb_548, htb _ mb_549⟩ ⟨kb_blind, va_recv hK hPc (ci := 4) (q0 := 0) rfl rfl, kb_at hPc hDc hKx⟩ rfl rfl hl.1 rfl (lv_room (Nat.le_of_ble_eq_true rfl)) d_Reckoner_join_34 ⟨Nat.le_of_ble_eq_true rfl, Nat.le_of_ble_eq_true rfl⟩) hS (fun q _ h => hFc q h) hFc (fun z_30 u t H1 locs ht hvm hw hB hz1 hk1 hS => ?_)
    have hz_30 := hw
    have hF := hF.trans (lt_e hz_30)
    obtain ⟨hP1, hD1⟩ := hB
    rw [ht] at hP1
    obtain ⟨hP, hD⟩ := va_join (wr := []) (w1 := [(oR, .inr (4, [.ref aU, .ref aL, .int (pe - 1), .int wy, .long mi])), (aU, .inl (cJ, 19, .inr (.inl ru))), (aL, .inl (cJ, 19, .inr (.inl rl)))]) hP hD [0, 1, 2] [] rfl rfl (by decide) (by decide) hk1 hFc hP1 hD1
    generalize H1 = H at hP hS ⊢
    have hP : va_P (dC, dI) vwCl [(oR, .inr (4, [.ref aU, .ref aL, .int (pe - 1), .int wy, .long mi])), (aU, .inl (cJ, 19, .inr (.inl ru))), (aL, .inl (cJ, 19, .inr (.inl rl)))] H := hP
    have hD : va_D A [(oR, .inr (4, [.ref aU, .ref aL, .int (pe - 1), .int wy, .long mi])), (aU, .inl (cJ, 19, .inr (.inl ru))), (aL, .inl (cJ, 19, .inr (.inl rl)))] := hD
    refine lv_lstore_n (lv' := [(2, .long z_30), (8, .long z_2), (6, .long z_1), (4, .long 1), (0, .ref oR), (1, .int kd)]) hx hb d_Reckoner_join_37 rfl hl (by decide) rfl (fun ls hl => ?_)
    refine lv_aload_n hx hb d_Reckoner_join_38 rfl (lv_at hl 4 rfl) ?_
    have hPc := hP.sub (ws' := [(oR, .inr (4, [.ref aU, .ref aL, .int (pe - 1), .int wy, .long mi])), (aU, .inl (cJ, 19, .inr (.inl ru))), (aL, .inl (cJ, 19, .inr (.inl rl)))]) [0, 1, 2] rfl
    have hDc := hD.sub (ws' := [(oR, .inr (4, [.ref aU, .ref aL, .int (pe - 1), .int wy, .long mi])), (aU, .inl (cJ, 19, .inr (.inl ru))), (aL, .inl (cJ, 19, .inr (.inl rl)))]) [0, 1, 2] (by decide) rfl
    have hFc := va_free (wc := [(oR, .inr (4, [.ref aU, .ref aL, .int (pe - 1), .int wy, .long mi])), (aU, .inl (cJ, 19, .inr (.inl ru))), (aL, .inl (cJ, 19, .inr (.inl rl)))]) hD hS hA [0, 1, 2] rfl
    refine va_calll (va_runV (As := []) (rest := []) ⟨hx, hb, hml, hown, htb⟩ (c_Reckoner_lower l dC dI cB cI cJ oR aU aL _ (pe - 1) wy mi ru rl ) ⟨callB_of 0 htb (gb_all mb_554) rfl rfl rfl (htb _ mb_7) (htb _ mb_551) (by decide +kernel) ⟨Nat.le_of_ble_eq_true rfl, Nat.le_of_ble_eq_true rfl⟩, htb _ mb_552, htb _ mb_553⟩ ⟨kb_blind, va_recv hK hPc (ci := 4) (q0 := 0) rfl rfl, kb_at hPc hDc hKx⟩ rfl rfl hl.1 rfl (lv_room (Nat.le_of_ble_eq_true rfl)) d_Reckoner_join_39 ⟨Nat.le_of_ble_eq_true rfl, Nat.le_of_ble_eq_true rfl⟩) hS (fun q _ h => hFc q h) hFc (fun z_31 u t H1 locs ht hvm hw hB hz1 hk1 hS => ?_)
    have hz_31 := hw
    have hF := hF.trans (lt_e hz_31)
    obtain ⟨hP1, hD1⟩ := hB
    rw [ht] at hP1
    obtain ⟨hP, hD⟩ := va_join (wr := []) (w1 := [(oR, .inr (4, [.ref aU, .ref aL, .int (pe - 1), .int wy, .long mi])), (aU, .inl (cJ, 19, .inr (.inl ru))), (aL, .inl (cJ, 19, .inr (.inl rl)))]) hP hD [0, 1, 2] [] rfl rfl (by decide) (by decide) hk1 hFc hP1 hD1
    generalize H1 = H at hP hS ⊢
    have hP : va_P (dC, dI) vwCl [(oR, .inr (4, [.ref aU, .ref aL, .int (pe - 1), .int wy, .long mi])), (aU, .inl (cJ, 19, .inr (.inl ru))), (aL, .inl (cJ, 19, .inr (.inl rl)))] H := hP
    have hD : va_D A [(oR, .inr (4, [.ref aU, .ref aL, .int (pe - 1), .int wy, .long mi])), (aU, .inl (cJ, 19, .inr (.inl ru))), (aL, .inl (cJ, 19, .inr (.inl rl)))] := hD
    refine lv_lstore (lv' := [(4, .long z_31), (2, .long z_30), (8, .long z_2), (6, .long z_1), (0, .ref oR), (1, .int kd)]) hx hb d_Reckoner_join_42 hl (by decide) rfl (fun ls hl => ?_)
    refine lv_aload_n hx hb d_Reckoner_join_44 rfl (lv_at hl 4 rfl) ?_
    refine lv_dup hx hb d_Reckoner_join_45 rfl ?_
    refine va_get (D := (dC, dI)) (ci := 4) (v := .int (pe - 1)) (C := "PermitRules$Reckoner") (T := T_Reckoner) (N := 5) hx hb htb in_Reckoner hown hK hP 0 rfl rfl 2 (by decide) (htb _ mb_100) (fun _ h9 => h9) rfl d_Reckoner_join_46 ?_
    refine lv_iconst (v := 1) hx hb d_Reckoner_join_49 (by decide) ?_
    refine lv_isub hx hb d_Reckoner_join_50 ?_
    refine va_put (D := (dC, dI)) (ci := 4) (v := .int ((pe - 1) - 1)) (ty := .int) (C := "PermitRules$Reckoner") (T := T_Reckoner) (N := 5) hx hb htb in_Reckoner ty_Reckoner to_Reckoner nm_Reckoner hown hK hP hD hS 0 rfl rfl 2 (by decide) (htb _ mb_100) (fun _ h9 => h9) rfl (by decide +kernel) rfl rfl (Nat.le_of_ble_eq_true rfl) d_Reckoner_join_51 (fun H locs hP hD hS => ?_)
    have hP : va_P (dC, dI) vwCl [(oR, .inr (4, [.ref aU, .ref aL, .int ((pe - 1) - 1), .int wy, .long mi])), (aU, .inl (cJ, 19, .inr (.inl ru))), (aL, .inl (cJ, 19, .inr (.inl rl)))] H := hP
    have hD : va_D A [(oR, .inr (4, [.ref aU, .ref aL, .int ((pe - 1) - 1), .int wy, .long mi])), (aU, .inl (cJ, 19, .inr (.inl ru))), (aL, .inl (cJ, 19, .inr (.inl rl)))] := hD
    refine lv_iload_n hx hb d_Reckoner_join_54 rfl (lv_at hl 5 rfl) ?_
    refine lv_bipush (v := 42) hx hb d_Reckoner_join_55 (by decide) ?_
    refine lv_icmp_ne (tgt := 82) hx hb d_Reckoner_join_57 (by decide) (fun c_32 => ?_) (fun c_32 => ?_)
    · have hF := hF.trans (if_neg c_32)
      refine lv_iload_n hx hb d_Reckoner_join_82 rfl (lv_at hl 5 rfl) ?_
      refine lv_bipush (v := 43) hx hb d_Reckoner_join_83 (by decide) ?_
      refine lv_icmp_ne (tgt := 122) hx hb d_Reckoner_join_85 (by decide) (fun c_33 => ?_) (fun c_33 => ?_)
      · have hF := hF.trans (if_neg c_33)
        refine lv_iload_n hx hb d_Reckoner_join_122 rfl (lv_at hl 5 rfl) ?_
        refine lv_bipush (v := 45) hx hb d_Reckoner_join_123 (by decide) ?_
        refine lv_icmp_eq (tgt := 134) hx hb d_Reckoner_join_125 (by decide) (fun c_34 => ?_) (fun c_34 => ?_)
        · have hF := hF.trans (if_pos c_34)
          refine lv_aload_n hx hb d_Reckoner_join_134 rfl (lv_at hl 4 rfl) ?_
          refine lv_aload_n hx hb d_Reckoner_join_135 rfl (lv_at hl 4 rfl) ?_
          refine lv_aload_n hx hb d_Reckoner_join_136 rfl (lv_at hl 4 rfl) ?_
          refine lv_lload_n hx hb d_Reckoner_join_137 rfl (lv_at hl 1 rfl) ?_
          refine lv_lload hx hb d_Reckoner_join_138 (lv_at hl 2 rfl) ?_
          have hPc := hP.sub (ws' := [(oR, .inr (4, [.ref aU, .ref aL, .int ((pe - 1) - 1), .int wy, .long mi])), (aU, .inl (cJ, 19, .inr (.inl ru))), (aL, .inl (cJ, 19, .inr (.inl rl)))]) [0, 1, 2] rfl
          have hDc := hD.sub (ws' := [(oR, .inr (4, [.ref aU, .ref aL, .int ((pe - 1) - 1), .int wy, .long mi])), (aU, .inl (cJ, 19, .inr (.inl ru))), (aL, .inl (cJ, 19, .inr (.inl rl)))]) [0, 1, 2] (by decide) rfl
          have hFc := va_free (wc := [(oR, .inr (4, [.ref aU, .ref aL, .int ((pe - 1) - 1), .int wy, .long mi])), (aU, .inl (cJ, 19, .inr (.inl ru))), (aL, .inl (cJ, 19, .inr (.inl rl)))]) hD hS hA [0, 1, 2] rfl
          refine va_calll (va_runV (As := [.long z_30, .long z_2]) (rest := [.ref oR, .ref oR]) ⟨hx, hb, hml, hown, htb⟩ (c_Reckoner_product l dC dI cB cI cJ oR aU aL _ z_30 z_2 ((pe - 1) - 1) wy mi ru rl ) ⟨callB_of 2 htb (gb_all mb_558) rfl rfl rfl (htb _ mb_7) (htb _ mb_555) (by decide +kernel) ⟨Nat.le_of_ble_eq_true rfl, Nat.le_of_ble_eq_true rfl⟩, htb _ mb_556, htb _ mb_557⟩ ⟨kb_blind, va_recv hK hPc (ci := 4) (q0 := 0) rfl rfl, kb_at hPc hDc hKx⟩ rfl rfl hl.1 rfl (lv_room (Nat.le_of_ble_eq_true rfl)) d_Reckoner_join_140 ⟨Nat.le_of_ble_eq_true rfl, Nat.le_of_ble_eq_true rfl⟩) hS (fun q _ h => hFc q h) hFc (fun r u t H1 locs ht hvm hw hB hz1 hk1 hS => ?_)
          obtain ⟨z_35, hzz_35⟩ : ∃ z, z = f_Reckoner_product z_30 z_2 wy := ⟨_, rfl⟩
          rw [← hzz_35] at hw
          obtain ⟨rfl, rfl⟩ := hw
          have hF := hF.trans (lt_e hzz_35)
          obtain ⟨hP1, hD1⟩ := hB
          rw [ht] at hP1
          obtain ⟨hP, hD⟩ := va_join (wr := []) (w1 := [(oR, .inr (4, [.ref aU, .ref aL, .int ((pe - 1) - 1), .int z_35.2, .long mi])), (aU, .inl (cJ, 19, .inr (.inl ru))), (aL, .inl (cJ, 19, .inr (.inl rl)))]) hP hD [0, 1, 2] [] rfl rfl (by decide) (by decide) hk1 hFc hP1 hD1
          generalize H1 = H at hP hS ⊢
          have hP : va_P (dC, dI) vwCl [(oR, .inr (4, [.ref aU, .ref aL, .int ((pe - 1) - 1), .int z_35.2, .long mi])), (aU, .inl (cJ, 19, .inr (.inl ru))), (aL, .inl (cJ, 19, .inr (.inl rl)))] H := hP
          have hD : va_D A [(oR, .inr (4, [.ref aU, .ref aL, .int ((pe - 1) - 1), .int z_35.2, .long mi])), (aU, .inl (cJ, 19, .inr (.inl ru))), (aL, .inl (cJ, 19, .inr (.inl rl)))] := hD
          refine lv_aload_n hx hb d_Reckoner_join_143 rfl (lv_at hl 4 rfl) ?_
          refine lv_lload hx hb d_Reckoner_join_144 (lv_at hl 3 rfl) ?_
          refine lv_lload hx hb d_Reckoner_join_146 (lv_at hl 0 rfl) ?_
          have hPc := hP.sub (ws' := [(oR, .inr (4, [.ref aU, .ref aL, .int ((pe - 1) - 1), .int z_35.2, .long mi])), (aU, .inl (cJ, 19, .inr (.inl ru))), (aL, .inl (cJ, 19, .inr (.inl rl)))]) [0, 1, 2] rfl
          have hDc := hD.sub (ws' := [(oR, .inr (4, [.ref aU, .ref aL, .int ((pe - 1) - 1), .int z_35.2, .long mi])), (aU, .inl (cJ, 19, .inr (.inl ru))), (aL, .inl (cJ, 19, .inr (.inl rl)))]) [0, 1, 2] (by decide) rfl
          have hFc := va_free (wc := [(oR, .inr (4, [.ref aU, .ref aL, .int ((pe - 1) - 1), .int z_35.2, .long mi])), (aU, .inl (cJ, 19, .inr (.inl ru))), (aL, .inl (cJ, 19, .inr (.inl rl)))]) hD hS hA [0, 1, 2] rfl
          refine va_calll (va_runV (As := [.long z_1, .long z_31]) (rest := [.long z_35.1, .ref oR, .ref oR]) ⟨hx, hb, hml, hown, htb⟩ (c_Reckoner_product l dC dI cB cI cJ oR aU aL _ z_1 z_31 ((pe - 1) - 1) z_35.2 mi ru rl ) ⟨callB_of 2 htb (gb_all mb_558) rfl rfl rfl (htb _ mb_7) (htb _ mb_555) (by decide +kernel) ⟨Nat.le_of_ble_eq_true rfl, Nat.le_of_ble_eq_true rfl⟩, htb _ mb_556, htb _ mb_557⟩ ⟨kb_blind, va_recv hK hPc (ci := 4) (q0 := 0) rfl rfl, kb_at hPc hDc hKx⟩ rfl rfl hl.1 rfl (lv_room (Nat.le_of_ble_eq_true rfl)) d_Reckoner_join_148 ⟨Nat.le_of_ble_eq_true rfl, Nat.le_of_ble_eq_true rfl⟩) hS (fun q _ h => hFc q h) hFc (fun r u t H1 locs ht hvm hw hB hz1 hk1 hS => ?_)
          obtain ⟨z_36, hzz_36⟩ : ∃ z, z = f_Reckoner_product z_1 z_31 z_35.2 := ⟨_, rfl⟩
          rw [← hzz_36] at hw
          obtain ⟨rfl, rfl⟩ := hw
          have hF := hF.trans (lt_e hzz_36)
          obtain ⟨hP1, hD1⟩ := hB
          rw [ht] at hP1
          obtain ⟨hP, hD⟩ := va_join (wr := []) (w1 := [(oR, .inr (4, [.ref aU, .ref aL, .int ((pe - 1) - 1), .int z_36.2, .long mi])), (aU, .inl (cJ, 19, .inr (.inl ru))), (aL, .inl (cJ, 19, .inr (.inl rl)))]) hP hD [0, 1, 2] [] rfl rfl (by decide) (by decide) hk1 hFc hP1 hD1
          generalize H1 = H at hP hS ⊢
          have hP : va_P (dC, dI) vwCl [(oR, .inr (4, [.ref aU, .ref aL, .int ((pe - 1) - 1), .int z_36.2, .long mi])), (aU, .inl (cJ, 19, .inr (.inl ru))), (aL, .inl (cJ, 19, .inr (.inl rl)))] H := hP
          have hD : va_D A [(oR, .inr (4, [.ref aU, .ref aL, .int ((pe - 1) - 1), .int z_36.2, .long mi])), (aU, .inl (cJ, 19, .inr (.inl ru))), (aL, .inl (cJ, 19, .inr (.inl rl)))] := hD
          have hPc := hP.sub (ws' := [(oR, .inr (4, [.ref aU, .ref aL, .int ((pe - 1) - 1), .int z_36.2, .long mi])), (aU, .inl (cJ, 19, .inr (.inl ru))), (aL, .inl (cJ, 19, .inr (.inl rl)))]) [0, 1, 2] rfl
          have hDc := hD.sub (ws' := [(oR, .inr (4, [.ref aU, .ref aL, .int ((pe - 1) - 1), .int z_36.2, .long mi])), (aU, .inl (cJ, 19, .inr (.inl ru))), (aL, .inl (cJ, 19, .inr (.inl rl)))]) [0, 1, 2] (by decide) rfl
          have hFc := va_free (wc := [(oR, .inr (4, [.ref aU, .ref aL, .int ((pe - 1) - 1), .int z_36.2, .long mi])), (aU, .inl (cJ, 19, .inr (.inl ru))), (aL, .inl (cJ, 19, .inr (.inl rl)))]) hD hS hA [0, 1, 2] rfl
          refine va_calll (va_runV (As := [.long z_35.1, .long z_36.1]) (rest := [.ref oR]) ⟨hx, hb, hml, hown, htb⟩ (c_Reckoner_difference l dC dI cB cI cJ oR aU aL _ z_35.1 z_36.1 ((pe - 1) - 1) z_36.2 mi ru rl ) ⟨callB_of 2 htb (gb_all mb_575) rfl rfl rfl (htb _ mb_7) (htb _ mb_572) (by decide +kernel) ⟨Nat.le_of_ble_eq_true rfl, Nat.le_of_ble_eq_true rfl⟩, htb _ mb_574, htb _ mp_12⟩ ⟨kb_blind, va_recv hK hPc (ci := 4) (q0 := 0) rfl rfl, kb_at hPc hDc hKx⟩ rfl rfl hl.1 rfl (lv_room (Nat.le_of_ble_eq_true rfl)) d_Reckoner_join_151 ⟨Nat.le_of_ble_eq_true rfl, Nat.le_of_ble_eq_true rfl⟩) hS (fun q _ h => hFc q h) hFc (fun r u t H1 locs ht hvm hw hB hz1 hk1 hS => ?_)
          obtain ⟨z_37, hzz_37⟩ : ∃ z, z = f_Reckoner_difference z_35.1 z_36.1 z_36.2 := ⟨_, rfl⟩
          rw [← hzz_37] at hw
          obtain ⟨rfl, rfl⟩ := hw
          have hF := hF.trans (lt_e hzz_37)
          obtain ⟨hP1, hD1⟩ := hB
          rw [ht] at hP1
          obtain ⟨hP, hD⟩ := va_join (wr := []) (w1 := [(oR, .inr (4, [.ref aU, .ref aL, .int ((pe - 1) - 1), .int z_37.2, .long mi])), (aU, .inl (cJ, 19, .inr (.inl ru))), (aL, .inl (cJ, 19, .inr (.inl rl)))]) hP hD [0, 1, 2] [] rfl rfl (by decide) (by decide) hk1 hFc hP1 hD1
          generalize H1 = H at hP hS ⊢
          have hP : va_P (dC, dI) vwCl [(oR, .inr (4, [.ref aU, .ref aL, .int ((pe - 1) - 1), .int z_37.2, .long mi])), (aU, .inl (cJ, 19, .inr (.inl ru))), (aL, .inl (cJ, 19, .inr (.inl rl)))] H := hP
          have hD : va_D A [(oR, .inr (4, [.ref aU, .ref aL, .int ((pe - 1) - 1), .int z_37.2, .long mi])), (aU, .inl (cJ, 19, .inr (.inl ru))), (aL, .inl (cJ, 19, .inr (.inl rl)))] := hD
          refine lv_aload_n hx hb d_Reckoner_join_154 rfl (lv_at hl 4 rfl) ?_
          refine lv_lload hx hb d_Reckoner_join_155 (lv_at hl 0 rfl) ?_
          refine lv_lload hx hb d_Reckoner_join_157 (lv_at hl 2 rfl) ?_
          have hPc := hP.sub (ws' := [(oR, .inr (4, [.ref aU, .ref aL, .int ((pe - 1) - 1), .int z_37.2, .long mi])), (aU, .inl (cJ, 19, .inr (.inl ru))), (aL, .inl (cJ, 19, .inr (.inl rl)))]) [0, 1, 2] rfl
          have hDc := hD.sub (ws' := [(oR, .inr (4, [.ref aU, .ref aL, .int ((pe - 1) - 1), .int z_37.2, .long mi])), (aU, .inl (cJ, 19, .inr (.inl ru))), (aL, .inl (cJ, 19, .inr (.inl rl)))]) [0, 1, 2] (by decide) rfl
          have hFc := va_free (wc := [(oR, .inr (4, [.ref aU, .ref aL, .int ((pe - 1) - 1), .int z_37.2, .long mi])), (aU, .inl (cJ, 19, .inr (.inl ru))), (aL, .inl (cJ, 19, .inr (.inl rl)))]) hD hS hA [0, 1, 2] rfl
          refine va_calll (va_runV (As := [.long z_31, .long z_2]) (rest := [.long z_37.1, .ref oR]) ⟨hx, hb, hml, hown, htb⟩ (c_Reckoner_product l dC dI cB cI cJ oR aU aL _ z_31 z_2 ((pe - 1) - 1) z_37.2 mi ru rl ) ⟨callB_of 2 htb (gb_all mb_558) rfl rfl rfl (htb _ mb_7) (htb _ mb_555) (by decide +kernel) ⟨Nat.le_of_ble_eq_true rfl, Nat.le_of_ble_eq_true rfl⟩, htb _ mb_556, htb _ mb_557⟩ ⟨kb_blind, va_recv hK hPc (ci := 4) (q0 := 0) rfl rfl, kb_at hPc hDc hKx⟩ rfl rfl hl.1 rfl (lv_room (Nat.le_of_ble_eq_true rfl)) d_Reckoner_join_159 ⟨Nat.le_of_ble_eq_true rfl, Nat.le_of_ble_eq_true rfl⟩) hS (fun q _ h => hFc q h) hFc (fun r u t H1 locs ht hvm hw hB hz1 hk1 hS => ?_)
          obtain ⟨z_38, hzz_38⟩ : ∃ z, z = f_Reckoner_product z_31 z_2 z_37.2 := ⟨_, rfl⟩
          rw [← hzz_38] at hw
          obtain ⟨rfl, rfl⟩ := hw
          have hF := hF.trans (lt_e hzz_38)
          obtain ⟨hP1, hD1⟩ := hB
          rw [ht] at hP1
          obtain ⟨hP, hD⟩ := va_join (wr := []) (w1 := [(oR, .inr (4, [.ref aU, .ref aL, .int ((pe - 1) - 1), .int z_38.2, .long mi])), (aU, .inl (cJ, 19, .inr (.inl ru))), (aL, .inl (cJ, 19, .inr (.inl rl)))]) hP hD [0, 1, 2] [] rfl rfl (by decide) (by decide) hk1 hFc hP1 hD1
          generalize H1 = H at hP hS ⊢
          have hP : va_P (dC, dI) vwCl [(oR, .inr (4, [.ref aU, .ref aL, .int ((pe - 1) - 1), .int z_38.2, .long mi])), (aU, .inl (cJ, 19, .inr (.inl ru))), (aL, .inl (cJ, 19, .inr (.inl rl)))] H := hP
          have hD : va_D A [(oR, .inr (4, [.ref aU, .ref aL, .int ((pe - 1) - 1), .int z_38.2, .long mi])), (aU, .inl (cJ, 19, .inr (.inl ru))), (aL, .inl (cJ, 19, .inr (.inl rl)))] := hD
          have hPc := hP.sub (ws' := [(oR, .inr (4, [.ref aU, .ref aL, .int ((pe - 1) - 1), .int z_38.2, .long mi])), (aU, .inl (cJ, 19, .inr (.inl ru))), (aL, .inl (cJ, 19, .inr (.inl rl)))]) [0, 1, 2] rfl
          have hDc := hD.sub (ws' := [(oR, .inr (4, [.ref aU, .ref aL, .int ((pe - 1) - 1), .int z_38.2, .long mi])), (aU, .inl (cJ, 19, .inr (.inl ru))), (aL, .inl (cJ, 19, .inr (.inl rl)))]) [0, 1, 2] (by decide) rfl
          have hFc := va_free (wc := [(oR, .inr (4, [.ref aU, .ref aL, .int ((pe - 1) - 1), .int z_38.2, .long mi])), (aU, .inl (cJ, 19, .inr (.inl ru))), (aL, .inl (cJ, 19, .inr (.inl rl)))]) hD hS hA [0, 1, 2] rfl
          refine va_callv (va_runV (As := [.long z_37.1, .long z_38.1]) (rest := []) ⟨hx, hb, hml, hown, htb⟩ (c_Reckoner_settle l dC dI cB cI cJ oR aU aL _ z_37.1 z_38.1 ((pe - 1) - 1) z_38.2 mi ru rl ) ⟨callB_of 2 htb (gb_all mb_564) rfl rfl rfl (htb _ mb_7) (htb _ mb_561) (by decide +kernel) ⟨Nat.le_of_ble_eq_true rfl, Nat.le_of_ble_eq_true rfl⟩, htb _ mb_563, htb _ mp_10⟩ ⟨kb_blind, va_recv hK hPc (ci := 4) (q0 := 0) rfl rfl, kb_at hPc hDc hKx⟩ rfl rfl hl.1 rfl (lv_room (Nat.le_of_ble_eq_true rfl)) d_Reckoner_join_162 ⟨Nat.le_of_ble_eq_true rfl, Nat.le_of_ble_eq_true rfl⟩) hS (fun q _ h => hFc q h) hFc (fun z_39 t H1 locs ht hvm hw hB hz1 hk1 hS => ?_)
          have hz_39 := hw
          have hF := hF.trans (lt_e hz_39)
          obtain ⟨hP1, hD1⟩ := hB
          rw [ht] at hP1
          obtain ⟨hP, hD⟩ := va_join (wr := []) (w1 := [(oR, .inr (4, [.ref aU, .ref aL, .int z_39.1, .int z_39.2.1, .long mi])), (aU, .inl (cJ, 19, .inr (.inl z_39.2.2.1))), (aL, .inl (cJ, 19, .inr (.inl z_39.2.2.2)))]) hP hD [0, 1, 2] [] rfl rfl (by decide) (by decide) hk1 hFc hP1 hD1
          generalize H1 = H at hP hS ⊢
          have hP : va_P (dC, dI) vwCl [(oR, .inr (4, [.ref aU, .ref aL, .int z_39.1, .int z_39.2.1, .long mi])), (aU, .inl (cJ, 19, .inr (.inl z_39.2.2.1))), (aL, .inl (cJ, 19, .inr (.inl z_39.2.2.2)))] H := hP
          have hD : va_D A [(oR, .inr (4, [.ref aU, .ref aL, .int z_39.1, .int z_39.2.1, .long mi])), (aU, .inl (cJ, 19, .inr (.inl z_39.2.2.1))), (aL, .inl (cJ, 19, .inr (.inl z_39.2.2.2)))] := hD
          refine lv_goto (tgt := 202) hx hb d_Reckoner_join_165 (by decide) ?_
          have hP9 := hP.sub (ws' := [(oR, .inr (4, [.ref aU, .ref aL, .int z_39.1, .int z_39.2.1, .long mi])), (aU, .inl (cJ, 19, .inr (.inl z_39.2.2.1))), (aL, .inl (cJ, 19, .inr (.inl z_39.2.2.2)))]) [0, 1, 2] rfl
          have hD9 := hD.sub (ws' := [(oR, .inr (4, [.ref aU, .ref aL, .int z_39.1, .int z_39.2.1, .long mi])), (aU, .inl (cJ, 19, .inr (.inl z_39.2.2.1))), (aL, .inl (cJ, 19, .inr (.inl z_39.2.2.2)))]) [0, 1, 2] (by decide) rfl
          exact W.vret hx hb hr (fun t ht hW => ⟨⟨(z_39.1, z_39.2.1, z_39.2.2.1, z_39.2.2.2), rfl, by rw [hF], by rw [ht]; exact hP9, hD9⟩, hS.F ht⟩) hS.2.2 d_Reckoner_join_202
        · have hF := hF.trans (if_neg c_34)
          refine lv_iload_n hx hb d_Reckoner_join_128 rfl (lv_at hl 5 rfl) ?_
          refine lv_bipush (v := 6) hx hb d_Reckoner_join_129 (by decide) ?_
          refine lv_icmp_ne (tgt := 168) hx hb d_Reckoner_join_131 (by decide) (fun c_40 => ?_) (fun c_40 => ?_)
          · have hF := hF.trans (if_neg c_40)
            refine lv_lload hx hb d_Reckoner_join_168 (lv_at hl 3 rfl) ?_
            refine lv_lconst (v := 0) hx hb d_Reckoner_join_170 (by decide) ?_
            refine W.lcmp hx hb d_Reckoner_join_171 ?_
            refine lv_if_ne (tgt := 183) hx hb d_Reckoner_join_172 (by decide) (fun c_41 => ?_) (fun c_41 => ?_)
            · have hF := hF.trans (if_neg c_41)
              refine lv_aload_n hx hb d_Reckoner_join_183 rfl (lv_at hl 4 rfl) ?_
              refine lv_aload_n hx hb d_Reckoner_join_184 rfl (lv_at hl 4 rfl) ?_
              refine lv_lload_n hx hb d_Reckoner_join_185 rfl (lv_at hl 1 rfl) ?_
              refine lv_lload hx hb d_Reckoner_join_186 (lv_at hl 2 rfl) ?_
              have hPc := hP.sub (ws' := [(oR, .inr (4, [.ref aU, .ref aL, .int ((pe - 1) - 1), .int wy, .long mi])), (aU, .inl (cJ, 19, .inr (.inl ru))), (aL, .inl (cJ, 19, .inr (.inl rl)))]) [0, 1, 2] rfl
              have hDc := hD.sub (ws' := [(oR, .inr (4, [.ref aU, .ref aL, .int ((pe - 1) - 1), .int wy, .long mi])), (aU, .inl (cJ, 19, .inr (.inl ru))), (aL, .inl (cJ, 19, .inr (.inl rl)))]) [0, 1, 2] (by decide) rfl
              have hFc := va_free (wc := [(oR, .inr (4, [.ref aU, .ref aL, .int ((pe - 1) - 1), .int wy, .long mi])), (aU, .inl (cJ, 19, .inr (.inl ru))), (aL, .inl (cJ, 19, .inr (.inl rl)))]) hD hS hA [0, 1, 2] rfl
              refine va_calll (va_runV (As := [.long z_30, .long z_2]) (rest := [.ref oR]) ⟨hx, hb, hml, hown, htb⟩ (c_Reckoner_product l dC dI cB cI cJ oR aU aL _ z_30 z_2 ((pe - 1) - 1) wy mi ru rl ) ⟨callB_of 2 htb (gb_all mb_558) rfl rfl rfl (htb _ mb_7) (htb _ mb_555) (by decide +kernel) ⟨Nat.le_of_ble_eq_true rfl, Nat.le_of_ble_eq_true rfl⟩, htb _ mb_556, htb _ mb_557⟩ ⟨kb_blind, va_recv hK hPc (ci := 4) (q0 := 0) rfl rfl, kb_at hPc hDc hKx⟩ rfl rfl hl.1 rfl (lv_room (Nat.le_of_ble_eq_true rfl)) d_Reckoner_join_188 ⟨Nat.le_of_ble_eq_true rfl, Nat.le_of_ble_eq_true rfl⟩) hS (fun q _ h => hFc q h) hFc (fun r u t H1 locs ht hvm hw hB hz1 hk1 hS => ?_)
              obtain ⟨z_42, hzz_42⟩ : ∃ z, z = f_Reckoner_product z_30 z_2 wy := ⟨_, rfl⟩
              rw [← hzz_42] at hw
              obtain ⟨rfl, rfl⟩ := hw
              have hF := hF.trans (lt_e hzz_42)
              obtain ⟨hP1, hD1⟩ := hB
              rw [ht] at hP1
              obtain ⟨hP, hD⟩ := va_join (wr := []) (w1 := [(oR, .inr (4, [.ref aU, .ref aL, .int ((pe - 1) - 1), .int z_42.2, .long mi])), (aU, .inl (cJ, 19, .inr (.inl ru))), (aL, .inl (cJ, 19, .inr (.inl rl)))]) hP hD [0, 1, 2] [] rfl rfl (by decide) (by decide) hk1 hFc hP1 hD1
              generalize H1 = H at hP hS ⊢
              have hP : va_P (dC, dI) vwCl [(oR, .inr (4, [.ref aU, .ref aL, .int ((pe - 1) - 1), .int z_42.2, .long mi])), (aU, .inl (cJ, 19, .inr (.inl ru))), (aL, .inl (cJ, 19, .inr (.inl rl)))] H := hP
              have hD : va_D A [(oR, .inr (4, [.ref aU, .ref aL, .int ((pe - 1) - 1), .int z_42.2, .long mi])), (aU, .inl (cJ, 19, .inr (.inl ru))), (aL, .inl (cJ, 19, .inr (.inl rl)))] := hD
              refine lv_aload_n hx hb d_Reckoner_join_191 rfl (lv_at hl 4 rfl) ?_
              refine lv_lload hx hb d_Reckoner_join_192 (lv_at hl 0 rfl) ?_
              refine lv_lload hx hb d_Reckoner_join_194 (lv_at hl 3 rfl) ?_
              have hPc := hP.sub (ws' := [(oR, .inr (4, [.ref aU, .ref aL, .int ((pe - 1) - 1), .int z_42.2, .long mi])), (aU, .inl (cJ, 19, .inr (.inl ru))), (aL, .inl (cJ, 19, .inr (.inl rl)))]) [0, 1, 2] rfl
              have hDc := hD.sub (ws' := [(oR, .inr (4, [.ref aU, .ref aL, .int ((pe - 1) - 1), .int z_42.2, .long mi])), (aU, .inl (cJ, 19, .inr (.inl ru))), (aL, .inl (cJ, 19, .inr (.inl rl)))]) [0, 1, 2] (by decide) rfl
              have hFc := va_free (wc := [(oR, .inr (4, [.ref aU, .ref aL, .int ((pe - 1) - 1), .int z_42.2, .long mi])), (aU, .inl (cJ, 19, .inr (.inl ru))), (aL, .inl (cJ, 19, .inr (.inl rl)))]) hD hS hA [0, 1, 2] rfl
              refine va_calll (va_runV (As := [.long z_31, .long z_1]) (rest := [.long z_42.1, .ref oR]) ⟨hx, hb, hml, hown, htb⟩ (c_Reckoner_product l dC dI cB cI cJ oR aU aL _ z_31 z_1 ((pe - 1) - 1) z_42.2 mi ru rl ) ⟨callB_of 2 htb (gb_all mb_558) rfl rfl rfl (htb _ mb_7) (htb _ mb_555) (by decide +kernel) ⟨Nat.le_of_ble_eq_true rfl, Nat.le_of_ble_eq_true rfl⟩, htb _ mb_556, htb _ mb_557⟩ ⟨kb_blind, va_recv hK hPc (ci := 4) (q0 := 0) rfl rfl, kb_at hPc hDc hKx⟩ rfl rfl hl.1 rfl (lv_room (Nat.le_of_ble_eq_true rfl)) d_Reckoner_join_196 ⟨Nat.le_of_ble_eq_true rfl, Nat.le_of_ble_eq_true rfl⟩) hS (fun q _ h => hFc q h) hFc (fun r u t H1 locs ht hvm hw hB hz1 hk1 hS => ?_)
              obtain ⟨z_43, hzz_43⟩ : ∃ z, z = f_Reckoner_product z_31 z_1 z_42.2 := ⟨_, rfl⟩
              rw [← hzz_43] at hw
              obtain ⟨rfl, rfl⟩ := hw
              have hF := hF.trans (lt_e hzz_43)
              obtain ⟨hP1, hD1⟩ := hB
              rw [ht] at hP1
              obtain ⟨hP, hD⟩ := va_join (wr := []) (w1 := [(oR, .inr (4, [.ref aU, .ref aL, .int ((pe - 1) - 1), .int z_43.2, .long mi])), (aU, .inl (cJ, 19, .inr (.inl ru))), (aL, .inl (cJ, 19, .inr (.inl rl)))]) hP hD [0, 1, 2] [] rfl rfl (by decide) (by decide) hk1 hFc hP1 hD1
              generalize H1 = H at hP hS ⊢
              have hP : va_P (dC, dI) vwCl [(oR, .inr (4, [.ref aU, .ref aL, .int ((pe - 1) - 1), .int z_43.2, .long mi])), (aU, .inl (cJ, 19, .inr (.inl ru))), (aL, .inl (cJ, 19, .inr (.inl rl)))] H := hP
              have hD : va_D A [(oR, .inr (4, [.ref aU, .ref aL, .int ((pe - 1) - 1), .int z_43.2, .long mi])), (aU, .inl (cJ, 19, .inr (.inl ru))), (aL, .inl (cJ, 19, .inr (.inl rl)))] := hD
              have hPc := hP.sub (ws' := [(oR, .inr (4, [.ref aU, .ref aL, .int ((pe - 1) - 1), .int z_43.2, .long mi])), (aU, .inl (cJ, 19, .inr (.inl ru))), (aL, .inl (cJ, 19, .inr (.inl rl)))]) [0, 1, 2] rfl
              have hDc := hD.sub (ws' := [(oR, .inr (4, [.ref aU, .ref aL, .int ((pe - 1) - 1), .int z_43.2, .long mi])), (aU, .inl (cJ, 19, .inr (.inl ru))), (aL, .inl (cJ, 19, .inr (.inl rl)))]) [0, 1, 2] (by decide) rfl
              have hFc := va_free (wc := [(oR, .inr (4, [.ref aU, .ref aL, .int ((pe - 1) - 1), .int z_43.2, .long mi])), (aU, .inl (cJ, 19, .inr (.inl ru))), (aL, .inl (cJ, 19, .inr (.inl rl)))]) hD hS hA [0, 1, 2] rfl
              refine va_callv (va_runV (As := [.long z_42.1, .long z_43.1]) (rest := []) ⟨hx, hb, hml, hown, htb⟩ (c_Reckoner_settle l dC dI cB cI cJ oR aU aL _ z_42.1 z_43.1 ((pe - 1) - 1) z_43.2 mi ru rl ) ⟨callB_of 2 htb (gb_all mb_564) rfl rfl rfl (htb _ mb_7) (htb _ mb_561) (by decide +kernel) ⟨Nat.le_of_ble_eq_true rfl, Nat.le_of_ble_eq_true rfl⟩, htb _ mb_563, htb _ mp_10⟩ ⟨kb_blind, va_recv hK hPc (ci := 4) (q0 := 0) rfl rfl, kb_at hPc hDc hKx⟩ rfl rfl hl.1 rfl (lv_room (Nat.le_of_ble_eq_true rfl)) d_Reckoner_join_199 ⟨Nat.le_of_ble_eq_true rfl, Nat.le_of_ble_eq_true rfl⟩) hS (fun q _ h => hFc q h) hFc (fun z_44 t H1 locs ht hvm hw hB hz1 hk1 hS => ?_)
              have hz_44 := hw
              have hF := hF.trans (lt_e hz_44)
              obtain ⟨hP1, hD1⟩ := hB
              rw [ht] at hP1
              obtain ⟨hP, hD⟩ := va_join (wr := []) (w1 := [(oR, .inr (4, [.ref aU, .ref aL, .int z_44.1, .int z_44.2.1, .long mi])), (aU, .inl (cJ, 19, .inr (.inl z_44.2.2.1))), (aL, .inl (cJ, 19, .inr (.inl z_44.2.2.2)))]) hP hD [0, 1, 2] [] rfl rfl (by decide) (by decide) hk1 hFc hP1 hD1
              generalize H1 = H at hP hS ⊢
              have hP : va_P (dC, dI) vwCl [(oR, .inr (4, [.ref aU, .ref aL, .int z_44.1, .int z_44.2.1, .long mi])), (aU, .inl (cJ, 19, .inr (.inl z_44.2.2.1))), (aL, .inl (cJ, 19, .inr (.inl z_44.2.2.2)))] H := hP
              have hD : va_D A [(oR, .inr (4, [.ref aU, .ref aL, .int z_44.1, .int z_44.2.1, .long mi])), (aU, .inl (cJ, 19, .inr (.inl z_44.2.2.1))), (aL, .inl (cJ, 19, .inr (.inl z_44.2.2.2)))] := hD
              have hP9 := hP.sub (ws' := [(oR, .inr (4, [.ref aU, .ref aL, .int z_44.1, .int z_44.2.1, .long mi])), (aU, .inl (cJ, 19, .inr (.inl z_44.2.2.1))), (aL, .inl (cJ, 19, .inr (.inl z_44.2.2.2)))]) [0, 1, 2] rfl
              have hD9 := hD.sub (ws' := [(oR, .inr (4, [.ref aU, .ref aL, .int z_44.1, .int z_44.2.1, .long mi])), (aU, .inl (cJ, 19, .inr (.inl z_44.2.2.1))), (aL, .inl (cJ, 19, .inr (.inl z_44.2.2.2)))]) [0, 1, 2] (by decide) rfl
              exact W.vret hx hb hr (fun t ht hW => ⟨⟨(z_44.1, z_44.2.1, z_44.2.2.1, z_44.2.2.2), rfl, by rw [hF], by rw [ht]; exact hP9, hD9⟩, hS.F ht⟩) hS.2.2 d_Reckoner_join_202
            · have hF := hF.trans (if_pos c_41)
              refine lv_aload_n hx hb d_Reckoner_join_175 rfl (lv_at hl 4 rfl) ?_
              refine lv_iconst (v := 3) hx hb d_Reckoner_join_176 (by decide) ?_
              refine va_put (D := (dC, dI)) (ci := 4) (v := .int 3) (ty := .int) (C := "PermitRules$Reckoner") (T := T_Reckoner) (N := 5) hx hb htb in_Reckoner ty_Reckoner to_Reckoner nm_Reckoner hown hK hP hD hS 0 rfl rfl 3 (by decide) (htb _ mb_101) (fun _ h9 => h9) rfl (by decide +kernel) rfl rfl (Nat.le_of_ble_eq_true rfl) d_Reckoner_join_177 (fun H locs hP hD hS => ?_)
              have hP : va_P (dC, dI) vwCl [(oR, .inr (4, [.ref aU, .ref aL, .int ((pe - 1) - 1), .int 3, .long mi])), (aU, .inl (cJ, 19, .inr (.inl ru))), (aL, .inl (cJ, 19, .inr (.inl rl)))] H := hP
              have hD : va_D A [(oR, .inr (4, [.ref aU, .ref aL, .int ((pe - 1) - 1), .int 3, .long mi])), (aU, .inl (cJ, 19, .inr (.inl ru))), (aL, .inl (cJ, 19, .inr (.inl rl)))] := hD
              refine lv_goto (tgt := 202) hx hb d_Reckoner_join_180 (by decide) ?_
              have hP9 := hP.sub (ws' := [(oR, .inr (4, [.ref aU, .ref aL, .int ((pe - 1) - 1), .int 3, .long mi])), (aU, .inl (cJ, 19, .inr (.inl ru))), (aL, .inl (cJ, 19, .inr (.inl rl)))]) [0, 1, 2] rfl
              have hD9 := hD.sub (ws' := [(oR, .inr (4, [.ref aU, .ref aL, .int ((pe - 1) - 1), .int 3, .long mi])), (aU, .inl (cJ, 19, .inr (.inl ru))), (aL, .inl (cJ, 19, .inr (.inl rl)))]) [0, 1, 2] (by decide) rfl
              exact W.vret hx hb hr (fun t ht hW => ⟨⟨((pe - 1) - 1, 3, ru, rl), rfl, by rw [hF], by rw [ht]; exact hP9, hD9⟩, hS.F ht⟩) hS.2.2 d_Reckoner_join_202
          · have hF := hF.trans (if_pos c_40)
            refine lv_aload_n hx hb d_Reckoner_join_134 rfl (lv_at hl 4 rfl) ?_
            refine lv_aload_n hx hb d_Reckoner_join_135 rfl (lv_at hl 4 rfl) ?_
            refine lv_aload_n hx hb d_Reckoner_join_136 rfl (lv_at hl 4 rfl) ?_
            refine lv_lload_n hx hb d_Reckoner_join_137 rfl (lv_at hl 1 rfl) ?_
            refine lv_lload hx hb d_Reckoner_join_138 (lv_at hl 2 rfl) ?_
            have hPc := hP.sub (ws' := [(oR, .inr (4, [.ref aU, .ref aL, .int ((pe - 1) - 1), .int wy, .long mi])), (aU, .inl (cJ, 19, .inr (.inl ru))), (aL, .inl (cJ, 19, .inr (.inl rl)))]) [0, 1, 2] rfl
            have hDc := hD.sub (ws' := [(oR, .inr (4, [.ref aU, .ref aL, .int ((pe - 1) - 1), .int wy, .long mi])), (aU, .inl (cJ, 19, .inr (.inl ru))), (aL, .inl (cJ, 19, .inr (.inl rl)))]) [0, 1, 2] (by decide) rfl
            have hFc := va_free (wc := [(oR, .inr (4, [.ref aU, .ref aL, .int ((pe - 1) - 1), .int wy, .long mi])), (aU, .inl (cJ, 19, .inr (.inl ru))), (aL, .inl (cJ, 19, .inr (.inl rl)))]) hD hS hA [0, 1, 2] rfl
            refine va_calll (va_runV (As := [.long z_30, .long z_2]) (rest := [.ref oR, .ref oR]) ⟨hx, hb, hml, hown, htb⟩ (c_Reckoner_product l dC dI cB cI cJ oR aU aL _ z_30 z_2 ((pe - 1) - 1) wy mi ru rl ) ⟨callB_of 2 htb (gb_all mb_558) rfl rfl rfl (htb _ mb_7) (htb _ mb_555) (by decide +kernel) ⟨Nat.le_of_ble_eq_true rfl, Nat.le_of_ble_eq_true rfl⟩, htb _ mb_556, htb _ mb_557⟩ ⟨kb_blind, va_recv hK hPc (ci := 4) (q0 := 0) rfl rfl, kb_at hPc hDc hKx⟩ rfl rfl hl.1 rfl (lv_room (Nat.le_of_ble_eq_true rfl)) d_Reckoner_join_140 ⟨Nat.le_of_ble_eq_true rfl, Nat.le_of_ble_eq_true rfl⟩) hS (fun q _ h => hFc q h) hFc (fun r u t H1 locs ht hvm hw hB hz1 hk1 hS => ?_)
            obtain ⟨z_45, hzz_45⟩ : ∃ z, z = f_Reckoner_product z_30 z_2 wy := ⟨_, rfl⟩
            rw [← hzz_45] at hw
            obtain ⟨rfl, rfl⟩ := hw
            have hF := hF.trans (lt_e hzz_45)
            obtain ⟨hP1, hD1⟩ := hB
            rw [ht] at hP1
            obtain ⟨hP, hD⟩ := va_join (wr := []) (w1 := [(oR, .inr (4, [.ref aU, .ref aL, .int ((pe - 1) - 1), .int z_45.2, .long mi])), (aU, .inl (cJ, 19, .inr (.inl ru))), (aL, .inl (cJ, 19, .inr (.inl rl)))]) hP hD [0, 1, 2] [] rfl rfl (by decide) (by decide) hk1 hFc hP1 hD1
            generalize H1 = H at hP hS ⊢
            have hP : va_P (dC, dI) vwCl [(oR, .inr (4, [.ref aU, .ref aL, .int ((pe - 1) - 1), .int z_45.2, .long mi])), (aU, .inl (cJ, 19, .inr (.inl ru))), (aL, .inl (cJ, 19, .inr (.inl rl)))] H := hP
            have hD : va_D A [(oR, .inr (4, [.ref aU, .ref aL, .int ((pe - 1) - 1), .int z_45.2, .long mi])), (aU, .inl (cJ, 19, .inr (.inl ru))), (aL, .inl (cJ, 19, .inr (.inl rl)))] := hD
            refine lv_aload_n hx hb d_Reckoner_join_143 rfl (lv_at hl 4 rfl) ?_
            refine lv_lload hx hb d_Reckoner_join_144 (lv_at hl 3 rfl) ?_
            refine lv_lload hx hb d_Reckoner_join_146 (lv_at hl 0 rfl) ?_
            have hPc := hP.sub (ws' := [(oR, .inr (4, [.ref aU, .ref aL, .int ((pe - 1) - 1), .int z_45.2, .long mi])), (aU, .inl (cJ, 19, .inr (.inl ru))), (aL, .inl (cJ, 19, .inr (.inl rl)))]) [0, 1, 2] rfl
            have hDc := hD.sub (ws' := [(oR, .inr (4, [.ref aU, .ref aL, .int ((pe - 1) - 1), .int z_45.2, .long mi])), (aU, .inl (cJ, 19, .inr (.inl ru))), (aL, .inl (cJ, 19, .inr (.inl rl)))]) [0, 1, 2] (by decide) rfl
            have hFc := va_free (wc := [(oR, .inr (4, [.ref aU, .ref aL, .int ((pe - 1) - 1), .int z_45.2, .long mi])), (aU, .inl (cJ, 19, .inr (.inl ru))), (aL, .inl (cJ, 19, .inr (.inl rl)))]) hD hS hA [0, 1, 2] rfl
            refine va_calll (va_runV (As := [.long z_1, .long z_31]) (rest := [.long z_45.1, .ref oR, .ref oR]) ⟨hx, hb, hml, hown, htb⟩ (c_Reckoner_product l dC dI cB cI cJ oR aU aL _ z_1 z_31 ((pe - 1) - 1) z_45.2 mi ru rl ) ⟨callB_of 2 htb (gb_all mb_558) rfl rfl rfl (htb _ mb_7) (htb _ mb_555) (by decide +kernel) ⟨Nat.le_of_ble_eq_true rfl, Nat.le_of_ble_eq_true rfl⟩, htb _ mb_556, htb _ mb_557⟩ ⟨kb_blind, va_recv hK hPc (ci := 4) (q0 := 0) rfl rfl, kb_at hPc hDc hKx⟩ rfl rfl hl.1 rfl (lv_room (Nat.le_of_ble_eq_true rfl)) d_Reckoner_join_148 ⟨Nat.le_of_ble_eq_true rfl, Nat.le_of_ble_eq_true rfl⟩) hS (fun q _ h => hFc q h) hFc (fun r u t H1 locs ht hvm hw hB hz1 hk1 hS => ?_)
            obtain ⟨z_46, hzz_46⟩ : ∃ z, z = f_Reckoner_product z_1 z_31 z_45.2 := ⟨_, rfl⟩
            rw [← hzz_46] at hw
            obtain ⟨rfl, rfl⟩ := hw
            have hF := hF.trans (lt_e hzz_46)
            obtain ⟨hP1, hD1⟩ := hB
            rw [ht] at hP1
            obtain ⟨hP, hD⟩ := va_join (wr := []) (w1 := [(oR, .inr (4, [.ref aU, .ref aL, .int ((pe - 1) - 1), .int z_46.2, .long mi])), (aU, .inl (cJ, 19, .inr (.inl ru))), (aL, .inl (cJ, 19, .inr (.inl rl)))]) hP hD [0, 1, 2] [] rfl rfl (by decide) (by decide) hk1 hFc hP1 hD1
            generalize H1 = H at hP hS ⊢
            have hP : va_P (dC, dI) vwCl [(oR, .inr (4, [.ref aU, .ref aL, .int ((pe - 1) - 1), .int z_46.2, .long mi])), (aU, .inl (cJ, 19, .inr (.inl ru))), (aL, .inl (cJ, 19, .inr (.inl rl)))] H := hP
            have hD : va_D A [(oR, .inr (4, [.ref aU, .ref aL, .int ((pe - 1) - 1), .int z_46.2, .long mi])), (aU, .inl (cJ, 19, .inr (.inl ru))), (aL, .inl (cJ, 19, .inr (.inl rl)))] := hD
            have hPc := hP.sub (ws' := [(oR, .inr (4, [.ref aU, .ref aL, .int ((pe - 1) - 1), .int z_46.2, .long mi])), (aU, .inl (cJ, 19, .inr (.inl ru))), (aL, .inl (cJ, 19, .inr (.inl rl)))]) [0, 1, 2] rfl
            have hDc := hD.sub (ws' := [(oR, .inr (4, [.ref aU, .ref aL, .int ((pe - 1) - 1), .int z_46.2, .long mi])), (aU, .inl (cJ, 19, .inr (.inl ru))), (aL, .inl (cJ, 19, .inr (.inl rl)))]) [0, 1, 2] (by decide) rfl
            have hFc := va_free (wc := [(oR, .inr (4, [.ref aU, .ref aL, .int ((pe - 1) - 1), .int z_46.2, .long mi])), (aU, .inl (cJ, 19, .inr (.inl ru))), (aL, .inl (cJ, 19, .inr (.inl rl)))]) hD hS hA [0, 1, 2] rfl
            refine va_calll (va_runV (As := [.long z_45.1, .long z_46.1]) (rest := [.ref oR]) ⟨hx, hb, hml, hown, htb⟩ (c_Reckoner_difference l dC dI cB cI cJ oR aU aL _ z_45.1 z_46.1 ((pe - 1) - 1) z_46.2 mi ru rl ) ⟨callB_of 2 htb (gb_all mb_575) rfl rfl rfl (htb _ mb_7) (htb _ mb_572) (by decide +kernel) ⟨Nat.le_of_ble_eq_true rfl, Nat.le_of_ble_eq_true rfl⟩, htb _ mb_574, htb _ mp_12⟩ ⟨kb_blind, va_recv hK hPc (ci := 4) (q0 := 0) rfl rfl, kb_at hPc hDc hKx⟩ rfl rfl hl.1 rfl (lv_room (Nat.le_of_ble_eq_true rfl)) d_Reckoner_join_151 ⟨Nat.le_of_ble_eq_true rfl, Nat.le_of_ble_eq_true rfl⟩) hS (fun q _ h => hFc q h) hFc (fun r u t H1 locs ht hvm hw hB hz1 hk1 hS => ?_)
            obtain ⟨z_47, hzz_47⟩ : ∃ z, z = f_Reckoner_difference z_45.1 z_46.1 z_46.2 := ⟨_, rfl⟩
            rw [← hzz_47] at hw
            obtain ⟨rfl, rfl⟩ := hw
            have hF := hF.trans (lt_e hzz_47)
            obtain ⟨hP1, hD1⟩ := hB
            rw [ht] at hP1
            obtain ⟨hP, hD⟩ := va_join (wr := []) (w1 := [(oR, .inr (4, [.ref aU, .ref aL, .int ((pe - 1) - 1), .int z_47.2, .long mi])), (aU, .inl (cJ, 19, .inr (.inl ru))), (aL, .inl (cJ, 19, .inr (.inl rl)))]) hP hD [0, 1, 2] [] rfl rfl (by decide) (by decide) hk1 hFc hP1 hD1
            generalize H1 = H at hP hS ⊢
            have hP : va_P (dC, dI) vwCl [(oR, .inr (4, [.ref aU, .ref aL, .int ((pe - 1) - 1), .int z_47.2, .long mi])), (aU, .inl (cJ, 19, .inr (.inl ru))), (aL, .inl (cJ, 19, .inr (.inl rl)))] H := hP
            have hD : va_D A [(oR, .inr (4, [.ref aU, .ref aL, .int ((pe - 1) - 1), .int z_47.2, .long mi])), (aU, .inl (cJ, 19, .inr (.inl ru))), (aL, .inl (cJ, 19, .inr (.inl rl)))] := hD
            refine lv_aload_n hx hb d_Reckoner_join_154 rfl (lv_at hl 4 rfl) ?_
            refine lv_lload hx hb d_Reckoner_join_155 (lv_at hl 0 rfl) ?_
            refine lv_lload hx hb d_Reckoner_join_157 (lv_at hl 2 rfl) ?_
            have hPc := hP.sub (ws' := [(oR, .inr (4, [.ref aU, .ref aL, .int ((pe - 1) - 1), .int z_47.2, .long mi])), (aU, .inl (cJ, 19, .inr (.inl ru))), (aL, .inl (cJ, 19, .inr (.inl rl)))]) [0, 1, 2] rfl
            have hDc := hD.sub (ws' := [(oR, .inr (4, [.ref aU, .ref aL, .int ((pe - 1) - 1), .int z_47.2, .long mi])), (aU, .inl (cJ, 19, .inr (.inl ru))), (aL, .inl (cJ, 19, .inr (.inl rl)))]) [0, 1, 2] (by decide) rfl
            have hFc := va_free (wc := [(oR, .inr (4, [.ref aU, .ref aL, .int ((pe - 1) - 1), .int z_47.2, .long mi])), (aU, .inl (cJ, 19, .inr (.inl ru))), (aL, .inl (cJ, 19, .inr (.inl rl)))]) hD hS hA [0, 1, 2] rfl
            refine va_calll (va_runV (As := [.long z_31, .long z_2]) (rest := [.long z_47.1, .ref oR]) ⟨hx, hb, hml, hown, htb⟩ (c_Reckoner_product l dC dI cB cI cJ oR aU aL _ z_31 z_2 ((pe - 1) - 1) z_47.2 mi ru rl ) ⟨callB_of 2 htb (gb_all mb_558) rfl rfl rfl (htb _ mb_7) (htb _ mb_555) (by decide +kernel) ⟨Nat.le_of_ble_eq_true rfl, Nat.le_of_ble_eq_true rfl⟩, htb _ mb_556, htb _ mb_557⟩ ⟨kb_blind, va_recv hK hPc (ci := 4) (q0 := 0) rfl rfl, kb_at hPc hDc hKx⟩ rfl rfl hl.1 rfl (lv_room (Nat.le_of_ble_eq_true rfl)) d_Reckoner_join_159 ⟨Nat.le_of_ble_eq_true rfl, Nat.le_of_ble_eq_true rfl⟩) hS (fun q _ h => hFc q h) hFc (fun r u t H1 locs ht hvm hw hB hz1 hk1 hS => ?_)
            obtain ⟨z_48, hzz_48⟩ : ∃ z, z = f_Reckoner_product z_31 z_2 z_47.2 := ⟨_, rfl⟩
            rw [← hzz_48] at hw
            obtain ⟨rfl, rfl⟩ := hw
            have hF := hF.trans (lt_e hzz_48)
            obtain ⟨hP1, hD1⟩ := hB
            rw [ht] at hP1
            obtain ⟨hP, hD⟩ := va_join (wr := []) (w1 := [(oR, .inr (4, [.ref aU, .ref aL, .int ((pe - 1) - 1), .int z_48.2, .long mi])), (aU, .inl (cJ, 19, .inr (.inl ru))), (aL, .inl (cJ, 19, .inr (.inl rl)))]) hP hD [0, 1, 2] [] rfl rfl (by decide) (by decide) hk1 hFc hP1 hD1
            generalize H1 = H at hP hS ⊢
            have hP : va_P (dC, dI) vwCl [(oR, .inr (4, [.ref aU, .ref aL, .int ((pe - 1) - 1), .int z_48.2, .long mi])), (aU, .inl (cJ, 19, .inr (.inl ru))), (aL, .inl (cJ, 19, .inr (.inl rl)))] H := hP
            have hD : va_D A [(oR, .inr (4, [.ref aU, .ref aL, .int ((pe - 1) - 1), .int z_48.2, .long mi])), (aU, .inl (cJ, 19, .inr (.inl ru))), (aL, .inl (cJ, 19, .inr (.inl rl)))] := hD
            have hPc := hP.sub (ws' := [(oR, .inr (4, [.ref aU, .ref aL, .int ((pe - 1) - 1), .int z_48.2, .long mi])), (aU, .inl (cJ, 19, .inr (.inl ru))), (aL, .inl (cJ, 19, .inr (.inl rl)))]) [0, 1, 2] rfl
            have hDc := hD.sub (ws' := [(oR, .inr (4, [.ref aU, .ref aL, .int ((pe - 1) - 1), .int z_48.2, .long mi])), (aU, .inl (cJ, 19, .inr (.inl ru))), (aL, .inl (cJ, 19, .inr (.inl rl)))]) [0, 1, 2] (by decide) rfl
            have hFc := va_free (wc := [(oR, .inr (4, [.ref aU, .ref aL, .int ((pe - 1) - 1), .int z_48.2, .long mi])), (aU, .inl (cJ, 19, .inr (.inl ru))), (aL, .inl (cJ, 19, .inr (.inl rl)))]) hD hS hA [0, 1, 2] rfl
            refine va_callv (va_runV (As := [.long z_47.1, .long z_48.1]) (rest := []) ⟨hx, hb, hml, hown, htb⟩ (c_Reckoner_settle l dC dI cB cI cJ oR aU aL _ z_47.1 z_48.1 ((pe - 1) - 1) z_48.2 mi ru rl ) ⟨callB_of 2 htb (gb_all mb_564) rfl rfl rfl (htb _ mb_7) (htb _ mb_561) (by decide +kernel) ⟨Nat.le_of_ble_eq_true rfl, Nat.le_of_ble_eq_true rfl⟩, htb _ mb_563, htb _ mp_10⟩ ⟨kb_blind, va_recv hK hPc (ci := 4) (q0 := 0) rfl rfl, kb_at hPc hDc hKx⟩ rfl rfl hl.1 rfl (lv_room (Nat.le_of_ble_eq_true rfl)) d_Reckoner_join_162 ⟨Nat.le_of_ble_eq_true rfl, Nat.le_of_ble_eq_true rfl⟩) hS (fun q _ h => hFc q h) hFc (fun z_49 t H1 locs ht hvm hw hB hz1 hk1 hS => ?_)
            have hz_49 := hw
            have hF := hF.trans (lt_e hz_49)
            obtain ⟨hP1, hD1⟩ := hB
            rw [ht] at hP1
            obtain ⟨hP, hD⟩ := va_join (wr := []) (w1 := [(oR, .inr (4, [.ref aU, .ref aL, .int z_49.1, .int z_49.2.1, .long mi])), (aU, .inl (cJ, 19, .inr (.inl z_49.2.2.1))), (aL, .inl (cJ, 19, .inr (.inl z_49.2.2.2)))]) hP hD [0, 1, 2] [] rfl rfl (by decide) (by decide) hk1 hFc hP1 hD1
            generalize H1 = H at hP hS ⊢
            have hP : va_P (dC, dI) vwCl [(oR, .inr (4, [.ref aU, .ref aL, .int z_49.1, .int z_49.2.1, .long mi])), (aU, .inl (cJ, 19, .inr (.inl z_49.2.2.1))), (aL, .inl (cJ, 19, .inr (.inl z_49.2.2.2)))] H := hP
            have hD : va_D A [(oR, .inr (4, [.ref aU, .ref aL, .int z_49.1, .int z_49.2.1, .long mi])), (aU, .inl (cJ, 19, .inr (.inl z_49.2.2.1))), (aL, .inl (cJ, 19, .inr (.inl z_49.2.2.2)))] := hD
            refine lv_goto (tgt := 202) hx hb d_Reckoner_join_165 (by decide) ?_
            have hP9 := hP.sub (ws' := [(oR, .inr (4, [.ref aU, .ref aL, .int z_49.1, .int z_49.2.1, .long mi])), (aU, .inl (cJ, 19, .inr (.inl z_49.2.2.1))), (aL, .inl (cJ, 19, .inr (.inl z_49.2.2.2)))]) [0, 1, 2] rfl
            have hD9 := hD.sub (ws' := [(oR, .inr (4, [.ref aU, .ref aL, .int z_49.1, .int z_49.2.1, .long mi])), (aU, .inl (cJ, 19, .inr (.inl z_49.2.2.1))), (aL, .inl (cJ, 19, .inr (.inl z_49.2.2.2)))]) [0, 1, 2] (by decide) rfl
            exact W.vret hx hb hr (fun t ht hW => ⟨⟨(z_49.1, z_49.2.1, z_49.2.2.1, z_49.2.2.2), rfl, by rw [hF], by rw [ht]; exact hP9, hD9⟩, hS.F ht⟩) hS.2.2 d_Reckoner_join_202
      · have hF := hF.trans (if_pos c_33)
        refine lv_aload_n hx hb d_Reckoner_join_88 rfl (lv_at hl 4 rfl) ?_
        refine lv_aload_n hx hb d_Reckoner_join_89 rfl (lv_at hl 4 rfl) ?_
        refine lv_aload_n hx hb d_Reckoner_join_90 rfl (lv_at hl 4 rfl) ?_
        refine lv_lload_n hx hb d_Reckoner_join_91 rfl (lv_at hl 1 rfl) ?_
        refine lv_lload hx hb d_Reckoner_join_92 (lv_at hl 2 rfl) ?_
        have hPc := hP.sub (ws' := [(oR, .inr (4, [.ref aU, .ref aL, .int ((pe - 1) - 1), .int wy, .long mi])), (aU, .inl (cJ, 19, .inr (.inl ru))), (aL, .inl (cJ, 19, .inr (.inl rl)))]) [0, 1, 2] rfl
        have hDc := hD.sub (ws' := [(oR, .inr (4, [.ref aU, .ref aL, .int ((pe - 1) - 1), .int wy, .long mi])), (aU, .inl (cJ, 19, .inr (.inl ru))), (aL, .inl (cJ, 19, .inr (.inl rl)))]) [0, 1, 2] (by decide) rfl
        have hFc := va_free (wc := [(oR, .inr (4, [.ref aU, .ref aL, .int ((pe - 1) - 1), .int wy, .long mi])), (aU, .inl (cJ, 19, .inr (.inl ru))), (aL, .inl (cJ, 19, .inr (.inl rl)))]) hD hS hA [0, 1, 2] rfl
        refine va_calll (va_runV (As := [.long z_30, .long z_2]) (rest := [.ref oR, .ref oR]) ⟨hx, hb, hml, hown, htb⟩ (c_Reckoner_product l dC dI cB cI cJ oR aU aL _ z_30 z_2 ((pe - 1) - 1) wy mi ru rl ) ⟨callB_of 2 htb (gb_all mb_558) rfl rfl rfl (htb _ mb_7) (htb _ mb_555) (by decide +kernel) ⟨Nat.le_of_ble_eq_true rfl, Nat.le_of_ble_eq_true rfl⟩, htb _ mb_556, htb _ mb_557⟩ ⟨kb_blind, va_recv hK hPc (ci := 4) (q0 := 0) rfl rfl, kb_at hPc hDc hKx⟩ rfl rfl hl.1 rfl (lv_room (Nat.le_of_ble_eq_true rfl)) d_Reckoner_join_94 ⟨Nat.le_of_ble_eq_true rfl, Nat.le_of_ble_eq_true rfl⟩) hS (fun q _ h => hFc q h) hFc (fun r u t H1 locs ht hvm hw hB hz1 hk1 hS => ?_)
        obtain ⟨z_50, hzz_50⟩ : ∃ z, z = f_Reckoner_product z_30 z_2 wy := ⟨_, rfl⟩
        rw [← hzz_50] at hw
        obtain ⟨rfl, rfl⟩ := hw
        have hF := hF.trans (lt_e hzz_50)
        obtain ⟨hP1, hD1⟩ := hB
        rw [ht] at hP1
        obtain ⟨hP, hD⟩ := va_join (wr := []) (w1 := [(oR, .inr (4, [.ref aU, .ref aL, .int ((pe - 1) - 1), .int z_50.2, .long mi])), (aU, .inl (cJ, 19, .inr (.inl ru))), (aL, .inl (cJ, 19, .inr (.inl rl)))]) hP hD [0, 1, 2] [] rfl rfl (by decide) (by decide) hk1 hFc hP1 hD1
        generalize H1 = H at hP hS ⊢
        have hP : va_P (dC, dI) vwCl [(oR, .inr (4, [.ref aU, .ref aL, .int ((pe - 1) - 1), .int z_50.2, .long mi])), (aU, .inl (cJ, 19, .inr (.inl ru))), (aL, .inl (cJ, 19, .inr (.inl rl)))] H := hP
        have hD : va_D A [(oR, .inr (4, [.ref aU, .ref aL, .int ((pe - 1) - 1), .int z_50.2, .long mi])), (aU, .inl (cJ, 19, .inr (.inl ru))), (aL, .inl (cJ, 19, .inr (.inl rl)))] := hD
        refine lv_aload_n hx hb d_Reckoner_join_97 rfl (lv_at hl 4 rfl) ?_
        refine lv_lload hx hb d_Reckoner_join_98 (lv_at hl 3 rfl) ?_
        refine lv_lload hx hb d_Reckoner_join_100 (lv_at hl 0 rfl) ?_
        have hPc := hP.sub (ws' := [(oR, .inr (4, [.ref aU, .ref aL, .int ((pe - 1) - 1), .int z_50.2, .long mi])), (aU, .inl (cJ, 19, .inr (.inl ru))), (aL, .inl (cJ, 19, .inr (.inl rl)))]) [0, 1, 2] rfl
        have hDc := hD.sub (ws' := [(oR, .inr (4, [.ref aU, .ref aL, .int ((pe - 1) - 1), .int z_50.2, .long mi])), (aU, .inl (cJ, 19, .inr (.inl ru))), (aL, .inl (cJ, 19, .inr (.inl rl)))]) [0, 1, 2] (by decide) rfl
        have hFc := va_free (wc := [(oR, .inr (4, [.ref aU, .ref aL, .int ((pe - 1) - 1), .int z_50.2, .long mi])), (aU, .inl (cJ, 19, .inr (.inl ru))), (aL, .inl (cJ, 19, .inr (.inl rl)))]) hD hS hA [0, 1, 2] rfl
        refine va_calll (va_runV (As := [.long z_1, .long z_31]) (rest := [.long z_50.1, .ref oR, .ref oR]) ⟨hx, hb, hml, hown, htb⟩ (c_Reckoner_product l dC dI cB cI cJ oR aU aL _ z_1 z_31 ((pe - 1) - 1) z_50.2 mi ru rl ) ⟨callB_of 2 htb (gb_all mb_558) rfl rfl rfl (htb _ mb_7) (htb _ mb_555) (by decide +kernel) ⟨Nat.le_of_ble_eq_true rfl, Nat.le_of_ble_eq_true rfl⟩, htb _ mb_556, htb _ mb_557⟩ ⟨kb_blind, va_recv hK hPc (ci := 4) (q0 := 0) rfl rfl, kb_at hPc hDc hKx⟩ rfl rfl hl.1 rfl (lv_room (Nat.le_of_ble_eq_true rfl)) d_Reckoner_join_102 ⟨Nat.le_of_ble_eq_true rfl, Nat.le_of_ble_eq_true rfl⟩) hS (fun q _ h => hFc q h) hFc (fun r u t H1 locs ht hvm hw hB hz1 hk1 hS => ?_)
        obtain ⟨z_51, hzz_51⟩ : ∃ z, z = f_Reckoner_product z_1 z_31 z_50.2 := ⟨_, rfl⟩
        rw [← hzz_51] at hw
        obtain ⟨rfl, rfl⟩ := hw
        have hF := hF.trans (lt_e hzz_51)
        obtain ⟨hP1, hD1⟩ := hB
        rw [ht] at hP1
        obtain ⟨hP, hD⟩ := va_join (wr := []) (w1 := [(oR, .inr (4, [.ref aU, .ref aL, .int ((pe - 1) - 1), .int z_51.2, .long mi])), (aU, .inl (cJ, 19, .inr (.inl ru))), (aL, .inl (cJ, 19, .inr (.inl rl)))]) hP hD [0, 1, 2] [] rfl rfl (by decide) (by decide) hk1 hFc hP1 hD1
        generalize H1 = H at hP hS ⊢
        have hP : va_P (dC, dI) vwCl [(oR, .inr (4, [.ref aU, .ref aL, .int ((pe - 1) - 1), .int z_51.2, .long mi])), (aU, .inl (cJ, 19, .inr (.inl ru))), (aL, .inl (cJ, 19, .inr (.inl rl)))] H := hP
        have hD : va_D A [(oR, .inr (4, [.ref aU, .ref aL, .int ((pe - 1) - 1), .int z_51.2, .long mi])), (aU, .inl (cJ, 19, .inr (.inl ru))), (aL, .inl (cJ, 19, .inr (.inl rl)))] := hD
        have hPc := hP.sub (ws' := [(oR, .inr (4, [.ref aU, .ref aL, .int ((pe - 1) - 1), .int z_51.2, .long mi])), (aU, .inl (cJ, 19, .inr (.inl ru))), (aL, .inl (cJ, 19, .inr (.inl rl)))]) [0, 1, 2] rfl
        have hDc := hD.sub (ws' := [(oR, .inr (4, [.ref aU, .ref aL, .int ((pe - 1) - 1), .int z_51.2, .long mi])), (aU, .inl (cJ, 19, .inr (.inl ru))), (aL, .inl (cJ, 19, .inr (.inl rl)))]) [0, 1, 2] (by decide) rfl
        have hFc := va_free (wc := [(oR, .inr (4, [.ref aU, .ref aL, .int ((pe - 1) - 1), .int z_51.2, .long mi])), (aU, .inl (cJ, 19, .inr (.inl ru))), (aL, .inl (cJ, 19, .inr (.inl rl)))]) hD hS hA [0, 1, 2] rfl
        refine va_calll (va_runV (As := [.long z_50.1, .long z_51.1]) (rest := [.ref oR]) ⟨hx, hb, hml, hown, htb⟩ (c_Reckoner_sum l dC dI cB cI cJ oR aU aL _ z_50.1 z_51.1 ((pe - 1) - 1) z_51.2 mi ru rl ) ⟨callB_of 2 htb (gb_all mb_571) rfl rfl rfl (htb _ mb_7) (htb _ mb_568) (by decide +kernel) ⟨Nat.le_of_ble_eq_true rfl, Nat.le_of_ble_eq_true rfl⟩, htb _ mb_570, htb _ mp_11⟩ ⟨kb_blind, va_recv hK hPc (ci := 4) (q0 := 0) rfl rfl, kb_at hPc hDc hKx⟩ rfl rfl hl.1 rfl (lv_room (Nat.le_of_ble_eq_true rfl)) d_Reckoner_join_105 ⟨Nat.le_of_ble_eq_true rfl, Nat.le_of_ble_eq_true rfl⟩) hS (fun q _ h => hFc q h) hFc (fun r u t H1 locs ht hvm hw hB hz1 hk1 hS => ?_)
        obtain ⟨z_52, hzz_52⟩ : ∃ z, z = f_Reckoner_sum z_50.1 z_51.1 z_51.2 := ⟨_, rfl⟩
        rw [← hzz_52] at hw
        obtain ⟨rfl, rfl⟩ := hw
        have hF := hF.trans (lt_e hzz_52)
        obtain ⟨hP1, hD1⟩ := hB
        rw [ht] at hP1
        obtain ⟨hP, hD⟩ := va_join (wr := []) (w1 := [(oR, .inr (4, [.ref aU, .ref aL, .int ((pe - 1) - 1), .int z_52.2, .long mi])), (aU, .inl (cJ, 19, .inr (.inl ru))), (aL, .inl (cJ, 19, .inr (.inl rl)))]) hP hD [0, 1, 2] [] rfl rfl (by decide) (by decide) hk1 hFc hP1 hD1
        generalize H1 = H at hP hS ⊢
        have hP : va_P (dC, dI) vwCl [(oR, .inr (4, [.ref aU, .ref aL, .int ((pe - 1) - 1), .int z_52.2, .long mi])), (aU, .inl (cJ, 19, .inr (.inl ru))), (aL, .inl (cJ, 19, .inr (.inl rl)))] H := hP
        have hD : va_D A [(oR, .inr (4, [.ref aU, .ref aL, .int ((pe - 1) - 1), .int z_52.2, .long mi])), (aU, .inl (cJ, 19, .inr (.inl ru))), (aL, .inl (cJ, 19, .inr (.inl rl)))] := hD
        refine lv_aload_n hx hb d_Reckoner_join_108 rfl (lv_at hl 4 rfl) ?_
        refine lv_lload hx hb d_Reckoner_join_109 (lv_at hl 0 rfl) ?_
        refine lv_lload hx hb d_Reckoner_join_111 (lv_at hl 2 rfl) ?_
        have hPc := hP.sub (ws' := [(oR, .inr (4, [.ref aU, .ref aL, .int ((pe - 1) - 1), .int z_52.2, .long mi])), (aU, .inl (cJ, 19, .inr (.inl ru))), (aL, .inl (cJ, 19, .inr (.inl rl)))]) [0, 1, 2] rfl
        have hDc := hD.sub (ws' := [(oR, .inr (4, [.ref aU, .ref aL, .int ((pe - 1) - 1), .int z_52.2, .long mi])), (aU, .inl (cJ, 19, .inr (.inl ru))), (aL, .inl (cJ, 19, .inr (.inl rl)))]) [0, 1, 2] (by decide) rfl
        have hFc := va_free (wc := [(oR, .inr (4, [.ref aU, .ref aL, .int ((pe - 1) - 1), .int z_52.2, .long mi])), (aU, .inl (cJ, 19, .inr (.inl ru))), (aL, .inl (cJ, 19, .inr (.inl rl)))]) hD hS hA [0, 1, 2] rfl
        refine va_calll (va_runV (As := [.long z_31, .long z_2]) (rest := [.long z_52.1, .ref oR]) ⟨hx, hb, hml, hown, htb⟩ (c_Reckoner_product l dC dI cB cI cJ oR aU aL _ z_31 z_2 ((pe - 1) - 1) z_52.2 mi ru rl ) ⟨callB_of 2 htb (gb_all mb_558) rfl rfl rfl (htb _ mb_7) (htb _ mb_555) (by decide +kernel) ⟨Nat.le_of_ble_eq_true rfl, Nat.le_of_ble_eq_true rfl⟩, htb _ mb_556, htb _ mb_557⟩ ⟨kb_blind, va_recv hK hPc (ci := 4) (q0 := 0) rfl rfl, kb_at hPc hDc hKx⟩ rfl rfl hl.1 rfl (lv_room (Nat.le_of_ble_eq_true rfl)) d_Reckoner_join_113 ⟨Nat.le_of_ble_eq_true rfl, Nat.le_of_ble_eq_true rfl⟩) hS (fun q _ h => hFc q h) hFc (fun r u t H1 locs ht hvm hw hB hz1 hk1 hS => ?_)
        obtain ⟨z_53, hzz_53⟩ : ∃ z, z = f_Reckoner_product z_31 z_2 z_52.2 := ⟨_, rfl⟩
        rw [← hzz_53] at hw
        obtain ⟨rfl, rfl⟩ := hw
        have hF := hF.trans (lt_e hzz_53)
        obtain ⟨hP1, hD1⟩ := hB
        rw [ht] at hP1
        obtain ⟨hP, hD⟩ := va_join (wr := []) (w1 := [(oR, .inr (4, [.ref aU, .ref aL, .int ((pe - 1) - 1), .int z_53.2, .long mi])), (aU, .inl (cJ, 19, .inr (.inl ru))), (aL, .inl (cJ, 19, .inr (.inl rl)))]) hP hD [0, 1, 2] [] rfl rfl (by decide) (by decide) hk1 hFc hP1 hD1
        generalize H1 = H at hP hS ⊢
        have hP : va_P (dC, dI) vwCl [(oR, .inr (4, [.ref aU, .ref aL, .int ((pe - 1) - 1), .int z_53.2, .long mi])), (aU, .inl (cJ, 19, .inr (.inl ru))), (aL, .inl (cJ, 19, .inr (.inl rl)))] H := hP
        have hD : va_D A [(oR, .inr (4, [.ref aU, .ref aL, .int ((pe - 1) - 1), .int z_53.2, .long mi])), (aU, .inl (cJ, 19, .inr (.inl ru))), (aL, .inl (cJ, 19, .inr (.inl rl)))] := hD
        have hPc := hP.sub (ws' := [(oR, .inr (4, [.ref aU, .ref aL, .int ((pe - 1) - 1), .int z_53.2, .long mi])), (aU, .inl (cJ, 19, .inr (.inl ru))), (aL, .inl (cJ, 19, .inr (.inl rl)))]) [0, 1, 2] rfl
        have hDc := hD.sub (ws' := [(oR, .inr (4, [.ref aU, .ref aL, .int ((pe - 1) - 1), .int z_53.2, .long mi])), (aU, .inl (cJ, 19, .inr (.inl ru))), (aL, .inl (cJ, 19, .inr (.inl rl)))]) [0, 1, 2] (by decide) rfl
        have hFc := va_free (wc := [(oR, .inr (4, [.ref aU, .ref aL, .int ((pe - 1) - 1), .int z_53.2, .long mi])), (aU, .inl (cJ, 19, .inr (.inl ru))), (aL, .inl (cJ, 19, .inr (.inl rl)))]) hD hS hA [0, 1, 2] rfl
        refine va_callv (va_runV (As := [.long z_52.1, .long z_53.1]) (rest := []) ⟨hx, hb, hml, hown, htb⟩ (c_Reckoner_settle l dC dI cB cI cJ oR aU aL _ z_52.1 z_53.1 ((pe - 1) - 1) z_53.2 mi ru rl ) ⟨callB_of 2 htb (gb_all mb_564) rfl rfl rfl (htb _ mb_7) (htb _ mb_561) (by decide +kernel) ⟨Nat.le_of_ble_eq_true rfl, Nat.le_of_ble_eq_true rfl⟩, htb _ mb_563, htb _ mp_10⟩ ⟨kb_blind, va_recv hK hPc (ci := 4) (q0 := 0) rfl rfl, kb_at hPc hDc hKx⟩ rfl rfl hl.1 rfl (lv_room (Nat.le_of_ble_eq_true rfl)) d_Reckoner_join_116 ⟨Nat.le_of_ble_eq_true rfl, Nat.le_of_ble_eq_true rfl⟩) hS (fun q _ h => hFc q h) hFc (fun z_54 t H1 locs ht hvm hw hB hz1 hk1 hS => ?_)
        have hz_54 := hw
        have hF := hF.trans (lt_e hz_54)
        obtain ⟨hP1, hD1⟩ := hB
        rw [ht] at hP1
        obtain ⟨hP, hD⟩ := va_join (wr := []) (w1 := [(oR, .inr (4, [.ref aU, .ref aL, .int z_54.1, .int z_54.2.1, .long mi])), (aU, .inl (cJ, 19, .inr (.inl z_54.2.2.1))), (aL, .inl (cJ, 19, .inr (.inl z_54.2.2.2)))]) hP hD [0, 1, 2] [] rfl rfl (by decide) (by decide) hk1 hFc hP1 hD1
        generalize H1 = H at hP hS ⊢
        have hP : va_P (dC, dI) vwCl [(oR, .inr (4, [.ref aU, .ref aL, .int z_54.1, .int z_54.2.1, .long mi])), (aU, .inl (cJ, 19, .inr (.inl z_54.2.2.1))), (aL, .inl (cJ, 19, .inr (.inl z_54.2.2.2)))] H := hP
        have hD : va_D A [(oR, .inr (4, [.ref aU, .ref aL, .int z_54.1, .int z_54.2.1, .long mi])), (aU, .inl (cJ, 19, .inr (.inl z_54.2.2.1))), (aL, .inl (cJ, 19, .inr (.inl z_54.2.2.2)))] := hD
        refine lv_goto (tgt := 202) hx hb d_Reckoner_join_119 (by decide) ?_
        have hP9 := hP.sub (ws' := [(oR, .inr (4, [.ref aU, .ref aL, .int z_54.1, .int z_54.2.1, .long mi])), (aU, .inl (cJ, 19, .inr (.inl z_54.2.2.1))), (aL, .inl (cJ, 19, .inr (.inl z_54.2.2.2)))]) [0, 1, 2] rfl
        have hD9 := hD.sub (ws' := [(oR, .inr (4, [.ref aU, .ref aL, .int z_54.1, .int z_54.2.1, .long mi])), (aU, .inl (cJ, 19, .inr (.inl z_54.2.2.1))), (aL, .inl (cJ, 19, .inr (.inl z_54.2.2.2)))]) [0, 1, 2] (by decide) rfl
        exact W.vret hx hb hr (fun t ht hW => ⟨⟨(z_54.1, z_54.2.1, z_54.2.2.1, z_54.2.2.2), rfl, by rw [hF], by rw [ht]; exact hP9, hD9⟩, hS.F ht⟩) hS.2.2 d_Reckoner_join_202
    · have hF := hF.trans (if_pos c_32)
      refine lv_aload_n hx hb d_Reckoner_join_60 rfl (lv_at hl 4 rfl) ?_
      refine lv_aload_n hx hb d_Reckoner_join_61 rfl (lv_at hl 4 rfl) ?_
      refine lv_lload_n hx hb d_Reckoner_join_62 rfl (lv_at hl 1 rfl) ?_
      refine lv_lload hx hb d_Reckoner_join_63 (lv_at hl 3 rfl) ?_
      have hPc := hP.sub (ws' := [(oR, .inr (4, [.ref aU, .ref aL, .int ((pe - 1) - 1), .int wy, .long mi])), (aU, .inl (cJ, 19, .inr (.inl ru))), (aL, .inl (cJ, 19, .inr (.inl rl)))]) [0, 1, 2] rfl
      have hDc := hD.sub (ws' := [(oR, .inr (4, [.ref aU, .ref aL, .int ((pe - 1) - 1), .int wy, .long mi])), (aU, .inl (cJ, 19, .inr (.inl ru))), (aL, .inl (cJ, 19, .inr (.inl rl)))]) [0, 1, 2] (by decide) rfl
      have hFc := va_free (wc := [(oR, .inr (4, [.ref aU, .ref aL, .int ((pe - 1) - 1), .int wy, .long mi])), (aU, .inl (cJ, 19, .inr (.inl ru))), (aL, .inl (cJ, 19, .inr (.inl rl)))]) hD hS hA [0, 1, 2] rfl
      refine va_calll (va_runV (As := [.long z_30, .long z_1]) (rest := [.ref oR]) ⟨hx, hb, hml, hown, htb⟩ (c_Reckoner_product l dC dI cB cI cJ oR aU aL _ z_30 z_1 ((pe - 1) - 1) wy mi ru rl ) ⟨callB_of 2 htb (gb_all mb_558) rfl rfl rfl (htb _ mb_7) (htb _ mb_555) (by decide +kernel) ⟨Nat.le_of_ble_eq_true rfl, Nat.le_of_ble_eq_true rfl⟩, htb _ mb_556, htb _ mb_557⟩ ⟨kb_blind, va_recv hK hPc (ci := 4) (q0 := 0) rfl rfl, kb_at hPc hDc hKx⟩ rfl rfl hl.1 rfl (lv_room (Nat.le_of_ble_eq_true rfl)) d_Reckoner_join_65 ⟨Nat.le_of_ble_eq_true rfl, Nat.le_of_ble_eq_true rfl⟩) hS (fun q _ h => hFc q h) hFc (fun r u t H1 locs ht hvm hw hB hz1 hk1 hS => ?_)
      obtain ⟨z_55, hzz_55⟩ : ∃ z, z = f_Reckoner_product z_30 z_1 wy := ⟨_, rfl⟩
      rw [← hzz_55] at hw
      obtain ⟨rfl, rfl⟩ := hw
      have hF := hF.trans (lt_e hzz_55)
      obtain ⟨hP1, hD1⟩ := hB
      rw [ht] at hP1
      obtain ⟨hP, hD⟩ := va_join (wr := []) (w1 := [(oR, .inr (4, [.ref aU, .ref aL, .int ((pe - 1) - 1), .int z_55.2, .long mi])), (aU, .inl (cJ, 19, .inr (.inl ru))), (aL, .inl (cJ, 19, .inr (.inl rl)))]) hP hD [0, 1, 2] [] rfl rfl (by decide) (by decide) hk1 hFc hP1 hD1
      generalize H1 = H at hP hS ⊢
      have hP : va_P (dC, dI) vwCl [(oR, .inr (4, [.ref aU, .ref aL, .int ((pe - 1) - 1), .int z_55.2, .long mi])), (aU, .inl (cJ, 19, .inr (.inl ru))), (aL, .inl (cJ, 19, .inr (.inl rl)))] H := hP
      have hD : va_D A [(oR, .inr (4, [.ref aU, .ref aL, .int ((pe - 1) - 1), .int z_55.2, .long mi])), (aU, .inl (cJ, 19, .inr (.inl ru))), (aL, .inl (cJ, 19, .inr (.inl rl)))] := hD
      refine lv_aload_n hx hb d_Reckoner_join_68 rfl (lv_at hl 4 rfl) ?_
      refine lv_lload hx hb d_Reckoner_join_69 (lv_at hl 0 rfl) ?_
      refine lv_lload hx hb d_Reckoner_join_71 (lv_at hl 2 rfl) ?_
      have hPc := hP.sub (ws' := [(oR, .inr (4, [.ref aU, .ref aL, .int ((pe - 1) - 1), .int z_55.2, .long mi])), (aU, .inl (cJ, 19, .inr (.inl ru))), (aL, .inl (cJ, 19, .inr (.inl rl)))]) [0, 1, 2] rfl
      have hDc := hD.sub (ws' := [(oR, .inr (4, [.ref aU, .ref aL, .int ((pe - 1) - 1), .int z_55.2, .long mi])), (aU, .inl (cJ, 19, .inr (.inl ru))), (aL, .inl (cJ, 19, .inr (.inl rl)))]) [0, 1, 2] (by decide) rfl
      have hFc := va_free (wc := [(oR, .inr (4, [.ref aU, .ref aL, .int ((pe - 1) - 1), .int z_55.2, .long mi])), (aU, .inl (cJ, 19, .inr (.inl ru))), (aL, .inl (cJ, 19, .inr (.inl rl)))]) hD hS hA [0, 1, 2] rfl
      refine va_calll (va_runV (As := [.long z_31, .long z_2]) (rest := [.long z_55.1, .ref oR]) ⟨hx, hb, hml, hown, htb⟩ (c_Reckoner_product l dC dI cB cI cJ oR aU aL _ z_31 z_2 ((pe - 1) - 1) z_55.2 mi ru rl ) ⟨callB_of 2 htb (gb_all mb_558) rfl rfl rfl (htb _ mb_7) (htb _ mb_555) (by decide +kernel) ⟨Nat.le_of_ble_eq_true rfl, Nat.le_of_ble_eq_true rfl⟩, htb _ mb_556, htb _ mb_557⟩ ⟨kb_blind, va_recv hK hPc (ci := 4) (q0 := 0) rfl rfl, kb_at hPc hDc hKx⟩ rfl rfl hl.1 rfl (lv_room (Nat.le_of_ble_eq_true rfl)) d_Reckoner_join_73 ⟨Nat.le_of_ble_eq_true rfl, Nat.le_of_ble_eq_true rfl⟩) hS (fun q _ h => hFc q h) hFc (fun r u t H1 locs ht hvm hw hB hz1 hk1 hS => ?_)
      obtain ⟨z_56, hzz_56⟩ : ∃ z, z = f_Reckoner_product z_31 z_2 z_55.2 := ⟨_, rfl⟩
      rw [← hzz_56] at hw
      obtain ⟨rfl, rfl⟩ := hw
      have hF := hF.trans (lt_e hzz_56)
      obtain ⟨hP1, hD1⟩ := hB
      rw [ht] at hP1
      obtain ⟨hP, hD⟩ := va_join (wr := []) (w1 := [(oR, .inr (4, [.ref aU, .ref aL, .int ((pe - 1) - 1), .int z_56.2, .long mi])), (aU, .inl (cJ, 19, .inr (.inl ru))), (aL, .inl (cJ, 19, .inr (.inl rl)))]) hP hD [0, 1, 2] [] rfl rfl (by decide) (by decide) hk1 hFc hP1 hD1
      generalize H1 = H at hP hS ⊢
      have hP : va_P (dC, dI) vwCl [(oR, .inr (4, [.ref aU, .ref aL, .int ((pe - 1) - 1), .int z_56.2, .long mi])), (aU, .inl (cJ, 19, .inr (.inl ru))), (aL, .inl (cJ, 19, .inr (.inl rl)))] H := hP
      have hD : va_D A [(oR, .inr (4, [.ref aU, .ref aL, .int ((pe - 1) - 1), .int z_56.2, .long mi])), (aU, .inl (cJ, 19, .inr (.inl ru))), (aL, .inl (cJ, 19, .inr (.inl rl)))] := hD
      have hPc := hP.sub (ws' := [(oR, .inr (4, [.ref aU, .ref aL, .int ((pe - 1) - 1), .int z_56.2, .long mi])), (aU, .inl (cJ, 19, .inr (.inl ru))), (aL, .inl (cJ, 19, .inr (.inl rl)))]) [0, 1, 2] rfl
      have hDc := hD.sub (ws' := [(oR, .inr (4, [.ref aU, .ref aL, .int ((pe - 1) - 1), .int z_56.2, .long mi])), (aU, .inl (cJ, 19, .inr (.inl ru))), (aL, .inl (cJ, 19, .inr (.inl rl)))]) [0, 1, 2] (by decide) rfl
      have hFc := va_free (wc := [(oR, .inr (4, [.ref aU, .ref aL, .int ((pe - 1) - 1), .int z_56.2, .long mi])), (aU, .inl (cJ, 19, .inr (.inl ru))), (aL, .inl (cJ, 19, .inr (.inl rl)))]) hD hS hA [0, 1, 2] rfl
      refine va_callv (va_runV (As := [.long z_55.1, .long z_56.1]) (rest := []) ⟨hx, hb, hml, hown, htb⟩ (c_Reckoner_settle l dC dI cB cI cJ oR aU aL _ z_55.1 z_56.1 ((pe - 1) - 1) z_56.2 mi ru rl ) ⟨callB_of 2 htb (gb_all mb_564) rfl rfl rfl (htb _ mb_7) (htb _ mb_561) (by decide +kernel) ⟨Nat.le_of_ble_eq_true rfl, Nat.le_of_ble_eq_true rfl⟩, htb _ mb_563, htb _ mp_10⟩ ⟨kb_blind, va_recv hK hPc (ci := 4) (q0 := 0) rfl rfl, kb_at hPc hDc hKx⟩ rfl rfl hl.1 rfl (lv_room (Nat.le_of_ble_eq_true rfl)) d_Reckoner_join_76 ⟨Nat.le_of_ble_eq_true rfl, Nat.le_of_ble_eq_true rfl⟩) hS (fun q _ h => hFc q h) hFc (fun z_57 t H1 locs ht hvm hw hB hz1 hk1 hS => ?_)
      have hz_57 := hw
      have hF := hF.trans (lt_e hz_57)
      obtain ⟨hP1, hD1⟩ := hB
      rw [ht] at hP1
      obtain ⟨hP, hD⟩ := va_join (wr := []) (w1 := [(oR, .inr (4, [.ref aU, .ref aL, .int z_57.1, .int z_57.2.1, .long mi])), (aU, .inl (cJ, 19, .inr (.inl z_57.2.2.1))), (aL, .inl (cJ, 19, .inr (.inl z_57.2.2.2)))]) hP hD [0, 1, 2] [] rfl rfl (by decide) (by decide) hk1 hFc hP1 hD1
      generalize H1 = H at hP hS ⊢
      have hP : va_P (dC, dI) vwCl [(oR, .inr (4, [.ref aU, .ref aL, .int z_57.1, .int z_57.2.1, .long mi])), (aU, .inl (cJ, 19, .inr (.inl z_57.2.2.1))), (aL, .inl (cJ, 19, .inr (.inl z_57.2.2.2)))] H := hP
      have hD : va_D A [(oR, .inr (4, [.ref aU, .ref aL, .int z_57.1, .int z_57.2.1, .long mi])), (aU, .inl (cJ, 19, .inr (.inl z_57.2.2.1))), (aL, .inl (cJ, 19, .inr (.inl z_57.2.2.2)))] := hD
      refine lv_goto (tgt := 202) hx hb d_Reckoner_join_79 (by decide) ?_
      have hP9 := hP.sub (ws' := [(oR, .inr (4, [.ref aU, .ref aL, .int z_57.1, .int z_57.2.1, .long mi])), (aU, .inl (cJ, 19, .inr (.inl z_57.2.2.1))), (aL, .inl (cJ, 19, .inr (.inl z_57.2.2.2)))]) [0, 1, 2] rfl
      have hD9 := hD.sub (ws' := [(oR, .inr (4, [.ref aU, .ref aL, .int z_57.1, .int z_57.2.1, .long mi])), (aU, .inl (cJ, 19, .inr (.inl z_57.2.2.1))), (aL, .inl (cJ, 19, .inr (.inl z_57.2.2.2)))]) [0, 1, 2] (by decide) rfl
      exact W.vret hx hb hr (fun t ht hW => ⟨⟨(z_57.1, z_57.2.1, z_57.2.2.1, z_57.2.2.2), rfl, by rw [hF], by rw [ht]; exact hP9, hD9⟩, hS.F ht⟩) hS.2.2 d_Reckoner_join_202
def f_Reckoner_reckonSide_L8 (fr : Int32) (bh : Int32) (wy : Int32) (mi : Int64) (ru : (Nat → Int64)) (rl : (Nat → Int64)) (bk : (Nat → Int32)) (bw : (Nat → Int64)) (fz : Int32) (fn : (Nat → Int64)) (fv : (Nat → Int32)) : Nat → Int32 → Int32 → Int32 → Int64 → (Nat → Int64) → (Nat → Int64) → Int32 × Int32 × Int64 × (Nat → Int64) × (Nat → Int64)
  | 0, _, _, _, _, _, _ => (0, 0, 0, (fun _ => 0), (fun _ => 0))
  | n + 1, i, xe, xy, xi, xu, xl => (if bh ≤ i then (xe, xy, xi, xu, xl) else (if xy = 0 then (lt_ (f_Book_kindAt i bk) fun z_3 => (if z_3 = 2 then (lt_ (f_Book_worthAt i bw) fun z_9 => (lt_ (f_Reckoner_push z_9 1 xe xu xl) fun z_10 => (f_Reckoner_reckonSide_L8 fr bh wy mi ru rl bk bw fz fn fv n (i + 1) z_10.1 xy xi z_10.2.1 z_10.2.2))) else (if z_3 = 3 then (lt_ (f_Book_worthAt i bw) fun z_7 => (lt_ (f_Reckoner_pushFact z_7 xe xy xi xu xl fz fn fv) fun z_8 => (f_Reckoner_reckonSide_L8 fr bh wy mi ru rl bk bw fz fn fv n (i + 1) z_8.1 z_8.2.1 z_8.2.2.1 z_8.2.2.2.1 z_8.2.2.2.2))) else (lt_ (f_Reckoner_join z_3 xe xy xu xl) fun z_6 => (f_Reckoner_reckonSide_L8 fr bh wy mi ru rl bk bw fz fn fv n (i + 1) z_6.1 z_6.2.1 xi z_6.2.2.1 z_6.2.2.2))))) else (xe, xy, xi, xu, xl)))
theorem f_Reckoner_reckonSide_L8_s (fr : Int32) (bh : Int32) (wy : Int32) (mi : Int64) (ru : (Nat → Int64)) (rl : (Nat → Int64)) (bk : (Nat → Int32)) (bw : (Nat → Int64)) (fz : Int32) (fn : (Nat → Int64)) (fv : (Nat → Int32)) (n : Nat) (i : Int32) (xe : Int32) (xy : Int32) (xi : Int64) (xu : (Nat → Int64)) (xl : (Nat → Int64)) : f_Reckoner_reckonSide_L8 fr bh wy mi ru rl bk bw fz fn fv (n + 1) i xe xy xi xu xl = (if bh ≤ i then (xe, xy, xi, xu, xl) else (if xy = 0 then (lt_ (f_Book_kindAt i bk) fun z_3 => (if z_3 = 2 then (lt_ (f_Book_worthAt i bw) fun z_9 => (lt_ (f_Reckoner_push z_9 1 xe xu xl) fun z_10 => (f_Reckoner_reckonSide_L8 fr bh wy mi ru rl bk bw fz fn fv n (i + 1) z_10.1 xy xi z_10.2.1 z_10.2.2))) else (if z_3 = 3 then (lt_ (f_Book_worthAt i bw) fun z_7 => (lt_ (f_Reckoner_pushFact z_7 xe xy xi xu xl fz fn fv) fun z_8 => (f_Reckoner_reckonSide_L8 fr bh wy mi ru rl bk bw fz fn fv n (i + 1) z_8.1 z_8.2.1 z_8.2.2.1 z_8.2.2.2.1 z_8.2.2.2.2))) else (lt_ (f_Reckoner_join z_3 xe xy xu xl) fun z_6 => (f_Reckoner_reckonSide_L8 fr bh wy mi ru rl bk bw fz fn fv n (i + 1) z_6.1 z_6.2.1 xi z_6.2.2.1 z_6.2.2.2))))) else (xe, xy, xi, xu, xl))) := rfl
def f_Reckoner_reckonSide (fr : Int32) (bh : Int32) (wy : Int32) (mi : Int64) (ru : (Nat → Int64)) (rl : (Nat → Int64)) (bk : (Nat → Int32)) (bw : (Nat → Int64)) (fz : Int32) (fn : (Nat → Int64)) (fv : (Nat → Int32)) : Int32 × Int32 × Int64 × (Nat → Int64) × (Nat → Int64) := (f_Reckoner_reckonSide_L8 fr bh wy mi ru rl bk bw fz fn fv ((bh.toInt - fr.toInt).toNat + 1) fr 0 wy mi ru rl)
abbrev q_Reckoner_reckonSide (dC : Nat → ClassId) (dI : Nat → Nat → Nat) (cB cI cJ : ClassId) (oR aU aL oB gN gD gC gS gL gR gK gW oF aN aV : Nat) (fr : Int32) (bh : Int32) (pe : Int32) (wy : Int32) (mi : Int64) (ru : (Nat → Int64)) (rl : (Nat → Int64)) (rc : Int32) (cc_ : Int32) (sc : Int32) (bn : (Nat → Int64)) (bd : (Nat → Int64)) (bc : (Nat → Int32)) (bs : (Nat → Int32)) (bl : (Nat → Int32)) (br : (Nat → Int32)) (bk : (Nat → Int32)) (bw : (Nat → Int64)) (fz : Int32) (fn : (Nat → Int64)) (fv : (Nat → Int32)) (A : Nat → Prop) : Array Value → State → Outcome → State → Prop := va_Qv (fun u : Int32 × Int32 × Int64 × (Nat → Int64) × (Nat → Int64) => u = f_Reckoner_reckonSide fr bh wy mi ru rl bk bw fz fn fv) (fun u t => va_P (dC, dI) vwCl [(oR, .inr (4, [.ref aU, .ref aL, .int u.1, .int u.2.1, .long u.2.2.1])), (aU, .inl (cJ, 19, .inr (.inl u.2.2.2.1))), (aL, .inl (cJ, 19, .inr (.inl u.2.2.2.2))), (oB, .inr (0, [.ref gN, .ref gD, .ref gC, .int rc, .ref gS, .ref gL, .ref gR, .int cc_, .ref gK, .ref gW, .int sc])), (gN, .inl (cJ, 12, .inr (.inl bn))), (gD, .inl (cJ, 12, .inr (.inl bd))), (gC, .inl (cI, 12, .inl bc)), (gS, .inl (cI, 30, .inl bs)), (gL, .inl (cI, 30, .inl bl)), (gR, .inl (cI, 30, .inl br)), (gK, .inl (cI, 120, .inl bk)), (gW, .inl (cJ, 120, .inr (.inl bw))), (oF, .inr (1, [.ref aN, .ref aV, .int fz])), (aN, .inl (cJ, 40, .inr (.inl fn))), (aV, .inl (cI, 40, .inl fv))] t.heap ∧ va_D A [(oR, .inr (4, [.ref aU, .ref aL, .int u.1, .int u.2.1, .long u.2.2.1])), (aU, .inl (cJ, 19, .inr (.inl u.2.2.2.1))), (aL, .inl (cJ, 19, .inr (.inl u.2.2.2.2))), (oB, .inr (0, [.ref gN, .ref gD, .ref gC, .int rc, .ref gS, .ref gL, .ref gR, .int cc_, .ref gK, .ref gW, .int sc])), (gN, .inl (cJ, 12, .inr (.inl bn))), (gD, .inl (cJ, 12, .inr (.inl bd))), (gC, .inl (cI, 12, .inl bc)), (gS, .inl (cI, 30, .inl bs)), (gL, .inl (cI, 30, .inl bl)), (gR, .inl (cI, 30, .inl br)), (gK, .inl (cI, 120, .inl bk)), (gW, .inl (cJ, 120, .inr (.inl bw))), (oF, .inr (1, [.ref aN, .ref aV, .int fz])), (aN, .inl (cJ, 40, .inr (.inl fn))), (aV, .inl (cI, 40, .inl fv))]) A
set_option maxHeartbeats 4000000 in
set_option maxRecDepth 100000 in
theorem c_Reckoner_reckonSide (l : Launch) (dC : Nat → ClassId) (dI : Nat → Nat → Nat) (cB cI cJ : ClassId) (oR aU aL oB gN gD gC gS gL gR gK gW oF aN aV : Nat) (sz : Nat) (fr : Int32) (bh : Int32) (pe : Int32) (wy : Int32) (mi : Int64) (ru : (Nat → Int64)) (rl : (Nat → Int64)) (rc : Int32) (cc_ : Int32) (sc : Int32) (bn : (Nat → Int64)) (bd : (Nat → Int64)) (bc : (Nat → Int32)) (bs : (Nat → Int32)) (bl : (Nat → Int32)) (br : (Nat → Int32)) (bk : (Nat → Int32)) (bw : (Nat → Int64)) (fz : Int32) (fn : (Nat → Int64)) (fv : (Nat → Int32)) : Met l y_Reckoner_reckonSide (cw_Reckoner_reckonSide :: bgw) { frames := 3, cells := 0, slots := 0, locals := 87 } (va_Pc [.ref oR, .ref oB, .ref oF, .int fr, .int bh] (kb_B dC dI cB cI cJ [(oR, .inr (4, [.ref aU, .ref aL, .int pe, .int wy, .long mi])), (aU, .inl (cJ, 19, .inr (.inl ru))), (aL, .inl (cJ, 19, .inr (.inl rl))), (oB, .inr (0, [.ref gN, .ref gD, .ref gC, .int rc, .ref gS, .ref gL, .ref gR, .int cc_, .ref gK, .ref gW, .int sc])), (gN, .inl (cJ, 12, .inr (.inl bn))), (gD, .inl (cJ, 12, .inr (.inl bd))), (gC, .inl (cI, 12, .inl bc)), (gS, .inl (cI, 30, .inl bs)), (gL, .inl (cI, 30, .inl bl)), (gR, .inl (cI, 30, .inl br)), (gK, .inl (cI, 120, .inl bk)), (gW, .inl (cJ, 120, .inr (.inl bw))), (oF, .inr (1, [.ref aN, .ref aV, .int fz])), (aN, .inl (cJ, 40, .inr (.inl fn))), (aV, .inl (cI, 40, .inl fv))] sz)) (q_Reckoner_reckonSide dC dI cB cI cJ oR aU aL oB gN gD gC gS gL gR gK gW oF aN aV fr bh pe wy mi ru rl rc cc_ sc bn bd bc bs bl br bk bw fz fn fv (va_A [(oR, .inr (4, [.ref aU, .ref aL, .int pe, .int wy, .long mi])), (aU, .inl (cJ, 19, .inr (.inl ru))), (aL, .inl (cJ, 19, .inr (.inl rl))), (oB, .inr (0, [.ref gN, .ref gD, .ref gC, .int rc, .ref gS, .ref gL, .ref gR, .int cc_, .ref gK, .ref gW, .int sc])), (gN, .inl (cJ, 12, .inr (.inl bn))), (gD, .inl (cJ, 12, .inr (.inl bd))), (gC, .inl (cI, 12, .inl bc)), (gS, .inl (cI, 30, .inl bs)), (gL, .inl (cI, 30, .inl bl)), (gR, .inl (cI, 30, .inl br)), (gK, .inl (cI, 120, .inl bk)), (gW, .inl (cJ, 120, .inr (.inl bw))), (oF, .inr (1, [.ref aN, .ref aV, .int fz])), (aN, .inl (cJ, 40, .inr (.inl fn))), (aV, .inl (cI, 40, .inl fv))] sz)) 0 0 (va_A [(oR, .inr (4, [.ref aU, .ref aL, .int pe, .int wy, .long mi])), (aU, .inl (cJ, 19, .inr (.inl ru))), (aL, .inl (cJ, 19, .inr (.inl rl))), (oB, .inr (0, [.ref gN, .ref gD, .ref gC, .int rc, .ref gS, .ref gL, .ref gR, .int cc_, .ref gK, .ref gW, .int sc])), (gN, .inl (cJ, 12, .inr (.inl bn))), (gD, .inl (cJ, 12, .inr (.inl bd))), (gC, .inl (cI, 12, .inl bc)), (gS, .inl (cI, 30, .inl bs)), (gL, .inl (cI, 30, .inl bl)), (gR, .inl (cI, 30, .inl br)), (gK, .inl (cI, 120, .inl bk)), (gW, .inl (cJ, 120, .inr (.inl bw))), (oF, .inr (1, [.ref aN, .ref aV, .int fz])), (aN, .inl (cJ, 40, .inr (.inl fn))), (aV, .inl (cI, 40, .inl fv))] sz) := by
  refine Met.ofW (cc := prog_6_method_3_code) (maxL := 7) (ret := none) (by decide) rfl ?_
  intro p e s m args below meth c s₁ B hml hv
  obtain ⟨rfl, hsz, hP, hKx, hD0⟩ := hv
  have hx := B.exec
  have hb := B.bytes
  have hr := B.returns
  have hts := atoms_spec (ws := (cw_Reckoner_reckonSide :: bgw)) B.pre
  have hown : s.vm.findClass "PermitRules$Reckoner" = some m.cls := findClass_of_methodNamed B.named
  have hlocks := B.notSynchronized
  have htb := fun (w : Cond) (h : w ∈ bgw) => hts w (List.mem_cons_of_mem _ h)
  have hK := hKx.1
  subst hsz
  have hD := hD0.self (sz := s.heap.size)
  generalize hAe : va_A [(oR, .inr (4, [.ref aU, .ref aL, .int pe, .int wy, .long mi])), (aU, .inl (cJ, 19, .inr (.inl ru))), (aL, .inl (cJ, 19, .inr (.inl rl))), (oB, .inr (0, [.ref gN, .ref gD, .ref gC, .int rc, .ref gS, .ref gL, .ref gR, .int cc_, .ref gK, .ref gW, .int sc])), (gN, .inl (cJ, 12, .inr (.inl bn))), (gD, .inl (cJ, 12, .inr (.inl bd))), (gC, .inl (cI, 12, .inl bc)), (gS, .inl (cI, 30, .inl bs)), (gL, .inl (cI, 30, .inl bl)), (gR, .inl (cI, 30, .inl br)), (gK, .inl (cI, 120, .inl bk)), (gW, .inl (cJ, 120, .inr (.inl bw))), (oF, .inr (1, [.ref aN, .ref aV, .int fz])), (aN, .inl (cJ, 40, .inr (.inl fn))), (aV, .inl (cI, 40, .inl fv))] s.heap.size = A at hD ⊢
  have hA : ∀ q : Nat, s.heap.size ≤ q → A q := fun q h => by rw [← hAe]; exact Or.inr h
  have hS : va_S A s.heap s.heap [] := va_S.rf
  have hl := lv_entry ([.ref oR, .ref oB, .ref oF, .int fr, .int bh]) (n := 7) (Nat.le_of_ble_eq_true rfl)
  rw [lg_entry_eq]
  generalize (lg_sl ([.ref oR, .ref oB, .ref oF, .int fr, .int bh]) ++ List.replicate (7 - (lg_sl ([.ref oR, .ref oB, .ref oF, .int fr, .int bh])).length) Slot.unset).toArray = ls at hl ⊢
  have hl : lv_has ls 7 [(0, .ref oR), (1, .ref oB), (2, .ref oF), (3, .int fr), (4, .int bh)] := hl
  have hP : va_P (dC, dI) vwCl [(oR, .inr (4, [.ref aU, .ref aL, .int pe, .int wy, .long mi])), (aU, .inl (cJ, 19, .inr (.inl ru))), (aL, .inl (cJ, 19, .inr (.inl rl))), (oB, .inr (0, [.ref gN, .ref gD, .ref gC, .int rc, .ref gS, .ref gL, .ref gR, .int cc_, .ref gK, .ref gW, .int sc])), (gN, .inl (cJ, 12, .inr (.inl bn))), (gD, .inl (cJ, 12, .inr (.inl bd))), (gC, .inl (cI, 12, .inl bc)), (gS, .inl (cI, 30, .inl bs)), (gL, .inl (cI, 30, .inl bl)), (gR, .inl (cI, 30, .inl br)), (gK, .inl (cI, 120, .inl bk)), (gW, .inl (cJ, 120, .inr (.inl bw))), (oF, .inr (1, [.ref aN, .ref aV, .int fz])), (aN, .inl (cJ, 40, .inr (.inl fn))), (aV, .inl (cI, 40, .inl fv))] s.heap := hP
  have hF : f_Reckoner_reckonSide fr bh wy mi ru rl bk bw fz fn fv = (f_Reckoner_reckonSide_L8 fr bh wy mi ru rl bk bw fz fn fv ((bh.toInt - fr.toInt).toNat + 1) fr 0 wy mi ru rl) := rfl
  have lp8 : ∀ (n : Nat) (i : Int32) (xe : Int32) (xy : Int32) (xi : Int64) (xu : (Nat → Int64)) (xl : (Nat → Int64)), (bh.toInt - i.toInt).toNat < n → f_Reckoner_reckonSide fr bh wy mi ru rl bk bw fz fn fv = f_Reckoner_reckonSide_L8 fr bh wy mi ru rl bk bw fz fn fv n i xe xy xi xu xl → ∀ (H : Heap) (locs : List Loc) (ls : Array Slot), va_P (dC, dI) vwCl [(oR, .inr (4, [.ref aU, .ref aL, .int xe, .int xy, .long xi])), (aU, .inl (cJ, 19, .inr (.inl xu))), (aL, .inl (cJ, 19, .inr (.inl xl))), (oB, .inr (0, [.ref gN, .ref gD, .ref gC, .int rc, .ref gS, .ref gL, .ref gR, .int cc_, .ref gK, .ref gW, .int sc])), (gN, .inl (cJ, 12, .inr (.inl bn))), (gD, .inl (cJ, 12, .inr (.inl bd))), (gC, .inl (cI, 12, .inl bc)), (gS, .inl (cI, 30, .inl bs)), (gL, .inl (cI, 30, .inl bl)), (gR, .inl (cI, 30, .inl br)), (gK, .inl (cI, 120, .inl bk)), (gW, .inl (cJ, 120, .inr (.inl bw))), (oF, .inr (1, [.ref aN, .ref aV, .int fz])), (aN, .inl (cJ, 40, .inr (.inl fn))), (aV, .inl (cI, 40, .inl fv))] H → va_D A [(oR, .inr (4, [.ref aU, .ref aL, .int xe, .int xy, .long xi])), (aU, .inl (cJ, 19, .inr (.inl xu))), (aL, .inl (cJ, 19, .inr (.inl xl))), (oB, .inr (0, [.ref gN, .ref gD, .ref gC, .int rc, .ref gS, .ref gL, .ref gR, .int cc_, .ref gK, .ref gW, .int sc])), (gN, .inl (cJ, 12, .inr (.inl bn))), (gD, .inl (cJ, 12, .inr (.inl bd))), (gC, .inl (cI, 12, .inl bc)), (gS, .inl (cI, 30, .inl bs)), (gL, .inl (cI, 30, .inl bl)), (gR, .inl (cI, 30, .inl br)), (gK, .inl (cI, 120, .inl bk)), (gW, .inl (cJ, 120, .inr (.inl bw))), (oF, .inr (1, [.ref aN, .ref aV, .int fz])), (aN, .inl (cJ, 40, .inr (.inl fn))), (aV, .inl (cI, 40, .inl fv))] → va_S A s.heap H locs → lv_has ls 7 [(5, .int i), (0, .ref oR), (1, .ref oB), (2, .ref oF), (3, .int fr), (4, .int bh)] → W p l e (headSpec (cw_Reckoner_reckonSide :: bgw) { frames := 3, cells := 0, slots := 0, locals := 87 }).room s m ([.ref oR, .ref oB, .ref oF, .int fr, .int bh] : List Value).toArray below meth c H locs 0 0 (MQ below (q_Reckoner_reckonSide dC dI cB cI cJ oR aU aL oB gN gD gC gS gL gR gK gW oF aN aV fr bh pe wy mi ru rl rc cc_ sc bn bd bc bs bl br bk bw fz fn fv A) ([.ref oR, .ref oB, .ref oF, .int fr, .int bh] : List Value).toArray s 0 0 A) (F0 m 8 ls []) := by
    intro n
    induction n with
    | zero => intro i xe xy xi xu xl  hn; exact absurd hn (Nat.not_lt_zero _)
    | succ n ih =>
      intro i xe xy xi xu xl  hn hF H locs ls hP hD hS hl
      have hF := hF.trans (f_Reckoner_reckonSide_L8_s fr bh wy mi ru rl bk bw fz fn fv n i xe xy xi xu xl)
      refine lv_iload hx hb d_Reckoner_reckonSide_8 (lv_at hl 0 rfl) ?_
      refine lv_iload hx hb d_Reckoner_reckonSide_10 (lv_at hl 5 rfl) ?_
      refine lv_icmp_ge (tgt := 82) hx hb d_Reckoner_reckonSide_12 (by decide) (fun c_1 => ?_) (fun c_1 => ?_)
      · have hF := hF.trans (if_pos c_1)
        have hP9 := hP.sub (ws' := [(oR, .inr (4, [.ref aU, .ref aL, .int xe, .int xy, .long xi])), (aU, .inl (cJ, 19, .inr (.inl xu))), (aL, .inl (cJ, 19, .inr (.inl xl))), (oB, .inr (0, [.ref gN, .ref gD, .ref gC, .int rc, .ref gS, .ref gL, .ref gR, .int cc_, .ref gK, .ref gW, .int sc])), (gN, .inl (cJ, 12, .inr (.inl bn))), (gD, .inl (cJ, 12, .inr (.inl bd))), (gC, .inl (cI, 12, .inl bc)), (gS, .inl (cI, 30, .inl bs)), (gL, .inl (cI, 30, .inl bl)), (gR, .inl (cI, 30, .inl br)), (gK, .inl (cI, 120, .inl bk)), (gW, .inl (cJ, 120, .inr (.inl bw))), (oF, .inr (1, [.ref aN, .ref aV, .int fz])), (aN, .inl (cJ, 40, .inr (.inl fn))), (aV, .inl (cI, 40, .inl fv))]) [0, 1, 2, 3, 4, 5, 6, 7, 8, 9, 10, 11, 12, 13, 14] rfl
        have hD9 := hD.sub (ws' := [(oR, .inr (4, [.ref aU, .ref aL, .int xe, .int xy, .long xi])), (aU, .inl (cJ, 19, .inr (.inl xu))), (aL, .inl (cJ, 19, .inr (.inl xl))), (oB, .inr (0, [.ref gN, .ref gD, .ref gC, .int rc, .ref gS, .ref gL, .ref gR, .int cc_, .ref gK, .ref gW, .int sc])), (gN, .inl (cJ, 12, .inr (.inl bn))), (gD, .inl (cJ, 12, .inr (.inl bd))), (gC, .inl (cI, 12, .inl bc)), (gS, .inl (cI, 30, .inl bs)), (gL, .inl (cI, 30, .inl bl)), (gR, .inl (cI, 30, .inl br)), (gK, .inl (cI, 120, .inl bk)), (gW, .inl (cJ, 120, .inr (.inl bw))), (oF, .inr (1, [.ref aN, .ref aV, .int fz])), (aN, .inl (cJ, 40, .inr (.inl fn))), (aV, .inl (cI, 40, .inl fv))]) [0, 1, 2, 3, 4, 5, 6, 7, 8, 9, 10, 11, 12, 13, 14] (by decide) rfl
        exact W.vret hx hb hr (fun t ht hW => ⟨⟨(xe, xy, xi, xu, xl), rfl, by rw [hF], by rw [ht]; exact hP9, hD9⟩, hS.F ht⟩) hS.2.2 d_Reckoner_reckonSide_82
      · have hF := hF.trans (if_neg c_1)
        refine lv_aload_n hx hb d_Reckoner_reckonSide_15 rfl (lv_at hl 1 rfl) ?_
        refine va_get (D := (dC, dI)) (ci := 4) (v := .int xy) (C := "PermitRules$Reckoner") (T := T_Reckoner) (N := 5) hx hb htb in_Reckoner hown hK hP 0 rfl rfl 3 (by decide) (htb _ mb_101) (fun _ h9 => h9) rfl d_Reckoner_reckonSide_16 ?_
        refine lv_if_ne (tgt := 82) hx hb d_Reckoner_reckonSide_19 (by decide) (fun c_2 => ?_) (fun c_2 => ?_)
        · have hF := hF.trans (if_neg c_2)
          have hP9 := hP.sub (ws' := [(oR, .inr (4, [.ref aU, .ref aL, .int xe, .int xy, .long xi])), (aU, .inl (cJ, 19, .inr (.inl xu))), (aL, .inl (cJ, 19, .inr (.inl xl))), (oB, .inr (0, [.ref gN, .ref gD, .ref gC, .int rc, .ref gS, .ref gL, .ref gR, .int cc_, .ref gK, .ref gW, .int sc])), (gN, .inl (cJ, 12, .inr (.inl bn))), (gD, .inl (cJ, 12, .inr (.inl bd))), (gC, .inl (cI, 12, .inl bc)), (gS, .inl (cI, 30, .inl bs)), (gL, .inl (cI, 30, .inl bl)), (gR, .inl (cI, 30, .inl br)), (gK, .inl (cI, 120, .inl bk)), (gW, .inl (cJ, 120, .inr (.inl bw))), (oF, .inr (1, [.ref aN, .ref aV, .int fz])), (aN, .inl (cJ, 40, .inr (.inl fn))), (aV, .inl (cI, 40, .inl fv))]) [0, 1, 2, 3, 4, 5, 6, 7, 8, 9, 10, 11, 12, 13, 14] rfl
          have hD9 := hD.sub (ws' := [(oR, .inr (4, [.ref aU, .ref aL, .int xe, .int xy, .long xi])), (aU, .inl (cJ, 19, .inr (.inl xu))), (aL, .inl (cJ, 19, .inr (.inl xl))), (oB, .inr (0, [.ref gN, .ref gD, .ref gC, .int rc, .ref gS, .ref gL, .ref gR, .int cc_, .ref gK, .ref gW, .int sc])), (gN, .inl (cJ, 12, .inr (.inl bn))), (gD, .inl (cJ, 12, .inr (.inl bd))), (gC, .inl (cI, 12, .inl bc)), (gS, .inl (cI, 30, .inl bs)), (gL, .inl (cI, 30, .inl bl)), (gR, .inl (cI, 30, .inl br)), (gK, .inl (cI, 120, .inl bk)), (gW, .inl (cJ, 120, .inr (.inl bw))), (oF, .inr (1, [.ref aN, .ref aV, .int fz])), (aN, .inl (cJ, 40, .inr (.inl fn))), (aV, .inl (cI, 40, .inl fv))]) [0, 1, 2, 3, 4, 5, 6, 7, 8, 9, 10, 11, 12, 13, 14] (by decide) rfl
          exact W.vret hx hb hr (fun t ht hW => ⟨⟨(xe, xy, xi, xu, xl), rfl, by rw [hF], by rw [ht]; exact hP9, hD9⟩, hS.F ht⟩) hS.2.2 d_Reckoner_reckonSide_82
        · have hF := hF.trans (if_pos c_2)
          refine lv_aload_n hx hb d_Reckoner_reckonSide_22 rfl (lv_at hl 2 rfl) ?_
          refine lv_iload hx hb d_Reckoner_reckonSide_23 (lv_at hl 0 rfl) ?_
          have hPc := hP.sub (ws' := [(oB, .inr (0, [.ref gN, .ref gD, .ref gC, .int rc, .ref gS, .ref gL, .ref gR, .int cc_, .ref gK, .ref gW, .int sc])), (gN, .inl (cJ, 12, .inr (.inl bn))), (gD, .inl (cJ, 12, .inr (.inl bd))), (gC, .inl (cI, 12, .inl bc)), (gS, .inl (cI, 30, .inl bs)), (gL, .inl (cI, 30, .inl bl)), (gR, .inl (cI, 30, .inl br)), (gK, .inl (cI, 120, .inl bk)), (gW, .inl (cJ, 120, .inr (.inl bw)))]) [3, 4, 5, 6, 7, 8, 9, 10, 11] rfl
          have hDc := hD.sub (ws' := [(oB, .inr (0, [.ref gN, .ref gD, .ref gC, .int rc, .ref gS, .ref gL, .ref gR, .int cc_, .ref gK, .ref gW, .int sc])), (gN, .inl (cJ, 12, .inr (.inl bn))), (gD, .inl (cJ, 12, .inr (.inl bd))), (gC, .inl (cI, 12, .inl bc)), (gS, .inl (cI, 30, .inl bs)), (gL, .inl (cI, 30, .inl bl)), (gR, .inl (cI, 30, .inl br)), (gK, .inl (cI, 120, .inl bk)), (gW, .inl (cJ, 120, .inr (.inl bw)))]) [3, 4, 5, 6, 7, 8, 9, 10, 11] (by decide) rfl
          have hFc := va_free (wc := [(oB, .inr (0, [.ref gN, .ref gD, .ref gC, .int rc, .ref gS, .ref gL, .ref gR, .int cc_, .ref gK, .ref gW, .int sc])), (gN, .inl (cJ, 12, .inr (.inl bn))), (gD, .inl (cJ, 12, .inr (.inl bd))), (gC, .inl (cI, 12, .inl bc)), (gS, .inl (cI, 30, .inl bs)), (gL, .inl (cI, 30, .inl bl)), (gR, .inl (cI, 30, .inl br)), (gK, .inl (cI, 120, .inl bk)), (gW, .inl (cJ, 120, .inr (.inl bw)))]) hD hS hA [3, 4, 5, 6, 7, 8, 9, 10, 11] rfl
          refine va_calli (va_runV (As := [.int i]) (rest := []) ⟨hx, hb, hml, hown, htb⟩ (c_Book_kindAt l dC dI cB cI cJ oB gN gD gC gS gL gR gK gW _ i rc cc_ sc bn bd bc bs bl br bk bw ) ⟨callB_of 1 htb (gb_all mb_528) rfl rfl rfl (htb _ mb_8) (htb _ mb_525) (by decide +kernel) ⟨Nat.le_of_ble_eq_true rfl, Nat.le_of_ble_eq_true rfl⟩, htb _ mb_526, htb _ mb_527⟩ ⟨kb_blind, va_recv hK hPc (ci := 0) (q0 := 0) rfl rfl, kb_at hPc hDc hKx⟩ rfl rfl hl.1 rfl (lv_room (Nat.le_of_ble_eq_true rfl)) d_Reckoner_reckonSide_25 ⟨Nat.le_of_ble_eq_true rfl, Nat.le_of_ble_eq_true rfl⟩) hS (fun q _ h => hFc q h) hFc (fun z_3 u t H1 locs ht hvm hw hB hz1 hk1 hS => ?_)
          have hz_3 := hw
          have hF := hF.trans (lt_e hz_3)
          obtain ⟨hP1, hD1⟩ := hB
          rw [ht] at hP1
          obtain ⟨hP, hD⟩ := va_join (wr := [(oR, .inr (4, [.ref aU, .ref aL, .int xe, .int xy, .long xi])), (aU, .inl (cJ, 19, .inr (.inl xu))), (aL, .inl (cJ, 19, .inr (.inl xl))), (oF, .inr (1, [.ref aN, .ref aV, .int fz])), (aN, .inl (cJ, 40, .inr (.inl fn))), (aV, .inl (cI, 40, .inl fv))]) (w1 := [(oB, .inr (0, [.ref gN, .ref gD, .ref gC, .int rc, .ref gS, .ref gL, .ref gR, .int cc_, .ref gK, .ref gW, .int sc])), (gN, .inl (cJ, 12, .inr (.inl bn))), (gD, .inl (cJ, 12, .inr (.inl bd))), (gC, .inl (cI, 12, .inl bc)), (gS, .inl (cI, 30, .inl bs)), (gL, .inl (cI, 30, .inl bl)), (gR, .inl (cI, 30, .inl br)), (gK, .inl (cI, 120, .inl bk)), (gW, .inl (cJ, 120, .inr (.inl bw)))]) hP hD [3, 4, 5, 6, 7, 8, 9, 10, 11] [0, 1, 2, 12, 13, 14] rfl rfl (by decide) (by decide) hk1 hFc hP1 hD1
          generalize H1 = H at hP hS ⊢
          have hP : va_P (dC, dI) vwCl [(oR, .inr (4, [.ref aU, .ref aL, .int xe, .int xy, .long xi])), (aU, .inl (cJ, 19, .inr (.inl xu))), (aL, .inl (cJ, 19, .inr (.inl xl))), (oF, .inr (1, [.ref aN, .ref aV, .int fz])), (aN, .inl (cJ, 40, .inr (.inl fn))), (aV, .inl (cI, 40, .inl fv)), (oB, .inr (0, [.ref gN, .ref gD, .ref gC, .int rc, .ref gS, .ref gL, .ref gR, .int cc_, .ref gK, .ref gW, .int sc])), (gN, .inl (cJ, 12, .inr (.inl bn))), (gD, .inl (cJ, 12, .inr (.inl bd))), (gC, .inl (cI, 12, .inl bc)), (gS, .inl (cI, 30, .inl bs)), (gL, .inl (cI, 30, .inl bl)), (gR, .inl (cI, 30, .inl br)), (gK, .inl (cI, 120, .inl bk)), (gW, .inl (cJ, 120, .inr (.inl bw)))] H := hP
          have hD : va_D A [(oR, .inr (4, [.ref aU, .ref aL, .int xe, .int xy, .long xi])), (aU, .inl (cJ, 19, .inr (.inl xu))), (aL, .inl (cJ, 19, .inr (.inl xl))), (oF, .inr (1, [.ref aN, .ref aV, .int fz])), (aN, .inl (cJ, 40, .inr (.inl fn))), (aV, .inl (cI, 40, .inl fv)), (oB, .inr (0, [.ref gN, .ref gD, .ref gC, .int rc, .ref gS, .ref gL, .ref gR, .int cc_, .ref gK, .ref gW, .int sc])), (gN, .inl (cJ, 12, .inr (.inl bn))), (gD, .inl (cJ, 12, .inr (.inl bd))), (gC, .inl (cI, 12, .inl bc)), (gS, .inl (cI, 30, .inl bs)), (gL, .inl (cI, 30, .inl bl)), (gR, .inl (cI, 30, .inl br)), (gK, .inl (cI, 120, .inl bk)), (gW, .inl (cJ, 120, .inr (.inl bw)))] := hD
          refine lv_istore (lv' := [(6, .int z_3), (5, .int i), (0, .ref oR), (1, .ref oB), (2, .ref oF), (3, .int fr), (4, .int bh)]) hx hb d_Reckoner_reckonSide_28 hl (by decide) rfl (fun ls hl => ?_)
          refine lv_iload hx hb d_Reckoner_reckonSide_30 (lv_at hl 0 rfl) ?_
          refine lv_iconst (v := 2) hx hb d_Reckoner_reckonSide_32 (by decide) ?_
          refine lv_icmp_ne (tgt := 50) hx hb d_Reckoner_reckonSide_33 (by decide) (fun c_4 => ?_) (fun c_4 => ?_)
          · have hF := hF.trans (if_neg c_4)
            refine lv_iload hx hb d_Reckoner_reckonSide_50 (lv_at hl 0 rfl) ?_
            refine lv_iconst (v := 3) hx hb d_Reckoner_reckonSide_52 (by decide) ?_
            refine lv_icmp_ne (tgt := 70) hx hb d_Reckoner_reckonSide_53 (by decide) (fun c_5 => ?_) (fun c_5 => ?_)
            · have hF := hF.trans (if_neg c_5)
              refine lv_aload_n hx hb d_Reckoner_reckonSide_70 rfl (lv_at hl 2 rfl) ?_
              refine lv_iload hx hb d_Reckoner_reckonSide_71 (lv_at hl 0 rfl) ?_
              have hPc := hP.sub (ws' := [(oR, .inr (4, [.ref aU, .ref aL, .int xe, .int xy, .long xi])), (aU, .inl (cJ, 19, .inr (.inl xu))), (aL, .inl (cJ, 19, .inr (.inl xl)))]) [0, 1, 2] rfl
              have hDc := hD.sub (ws' := [(oR, .inr (4, [.ref aU, .ref aL, .int xe, .int xy, .long xi])), (aU, .inl (cJ, 19, .inr (.inl xu))), (aL, .inl (cJ, 19, .inr (.inl xl)))]) [0, 1, 2] (by decide) rfl
              have hFc := va_free (wc := [(oR, .inr (4, [.ref aU, .ref aL, .int xe, .int xy, .long xi])), (aU, .inl (cJ, 19, .inr (.inl xu))), (aL, .inl (cJ, 19, .inr (.inl xl)))]) hD hS hA [0, 1, 2] rfl
              refine va_callv (va_runV (As := [.int z_3]) (rest := []) ⟨hx, hb, hml, hown, htb⟩ (c_Reckoner_join l dC dI cB cI cJ oR aU aL _ z_3 xe xy xi xu xl ) ⟨callB_of 1 htb (gb_all mb_546) rfl rfl rfl (htb _ mb_7) (htb _ mb_543) (by decide +kernel) ⟨Nat.le_of_ble_eq_true rfl, Nat.le_of_ble_eq_true rfl⟩, htb _ mb_545, htb _ mp_9⟩ ⟨kb_blind, va_recv hK hPc (ci := 4) (q0 := 0) rfl rfl, kb_at hPc hDc hKx⟩ rfl rfl hl.1 rfl (lv_room (Nat.le_of_ble_eq_true rfl)) d_Reckoner_reckonSide_73 ⟨Nat.le_of_ble_eq_true rfl, Nat.le_of_ble_eq_true rfl⟩) hS (fun q _ h => hFc q h) hFc (fun z_6 t H1 locs ht hvm hw hB hz1 hk1 hS => ?_)
              have hz_6 := hw
              have hF := hF.trans (lt_e hz_6)
              obtain ⟨hP1, hD1⟩ := hB
              rw [ht] at hP1
              obtain ⟨hP, hD⟩ := va_join (wr := [(oF, .inr (1, [.ref aN, .ref aV, .int fz])), (aN, .inl (cJ, 40, .inr (.inl fn))), (aV, .inl (cI, 40, .inl fv)), (oB, .inr (0, [.ref gN, .ref gD, .ref gC, .int rc, .ref gS, .ref gL, .ref gR, .int cc_, .ref gK, .ref gW, .int sc])), (gN, .inl (cJ, 12, .inr (.inl bn))), (gD, .inl (cJ, 12, .inr (.inl bd))), (gC, .inl (cI, 12, .inl bc)), (gS, .inl (cI, 30, .inl bs)), (gL, .inl (cI, 30, .inl bl)), (gR, .inl (cI, 30, .inl br)), (gK, .inl (cI, 120, .inl bk)), (gW, .inl (cJ, 120, .inr (.inl bw)))]) (w1 := [(oR, .inr (4, [.ref aU, .ref aL, .int z_6.1, .int z_6.2.1, .long xi])), (aU, .inl (cJ, 19, .inr (.inl z_6.2.2.1))), (aL, .inl (cJ, 19, .inr (.inl z_6.2.2.2)))]) hP hD [0, 1, 2] [3, 4, 5, 6, 7, 8, 9, 10, 11, 12, 13, 14] rfl rfl (by decide) (by decide) hk1 hFc hP1 hD1
              generalize H1 = H at hP hS ⊢
              have hP : va_P (dC, dI) vwCl [(oF, .inr (1, [.ref aN, .ref aV, .int fz])), (aN, .inl (cJ, 40, .inr (.inl fn))), (aV, .inl (cI, 40, .inl fv)), (oB, .inr (0, [.ref gN, .ref gD, .ref gC, .int rc, .ref gS, .ref gL, .ref gR, .int cc_, .ref gK, .ref gW, .int sc])), (gN, .inl (cJ, 12, .inr (.inl bn))), (gD, .inl (cJ, 12, .inr (.inl bd))), (gC, .inl (cI, 12, .inl bc)), (gS, .inl (cI, 30, .inl bs)), (gL, .inl (cI, 30, .inl bl)), (gR, .inl (cI, 30, .inl br)), (gK, .inl (cI, 120, .inl bk)), (gW, .inl (cJ, 120, .inr (.inl bw))), (oR, .inr (4, [.ref aU, .ref aL, .int z_6.1, .int z_6.2.1, .long xi])), (aU, .inl (cJ, 19, .inr (.inl z_6.2.2.1))), (aL, .inl (cJ, 19, .inr (.inl z_6.2.2.2)))] H := hP
              have hD : va_D A [(oF, .inr (1, [.ref aN, .ref aV, .int fz])), (aN, .inl (cJ, 40, .inr (.inl fn))), (aV, .inl (cI, 40, .inl fv)), (oB, .inr (0, [.ref gN, .ref gD, .ref gC, .int rc, .ref gS, .ref gL, .ref gR, .int cc_, .ref gK, .ref gW, .int sc])), (gN, .inl (cJ, 12, .inr (.inl bn))), (gD, .inl (cJ, 12, .inr (.inl bd))), (gC, .inl (cI, 12, .inl bc)), (gS, .inl (cI, 30, .inl bs)), (gL, .inl (cI, 30, .inl bl)), (gR, .inl (cI, 30, .inl br)), (gK, .inl (cI, 120, .inl bk)), (gW, .inl (cJ, 120, .inr (.inl bw))), (oR, .inr (4, [.ref aU, .ref aL, .int z_6.1, .int z_6.2.1, .long xi])), (aU, .inl (cJ, 19, .inr (.inl z_6.2.2.1))), (aL, .inl (cJ, 19, .inr (.inl z_6.2.2.2)))] := hD
              refine lv_iinc (v := i + 1) (lv' := [(5, .int (i + 1)), (6, .int z_3), (0, .ref oR), (1, .ref oB), (2, .ref oF), (3, .int fr), (4, .int bh)]) hx hb d_Reckoner_reckonSide_76 hl (k := 1) rfl (by first | rfl | decide) (by decide) rfl (fun ls hl => ?_)
              refine lv_goto (tgt := 8) hx hb d_Reckoner_reckonSide_79 (by decide) ?_
              exact ih (i + 1) z_6.1 z_6.2.1 xi z_6.2.2.1 z_6.2.2.2 (oi_u c_1 hn) hF _ _ _ (hP.sub [12, 13, 14, 3, 4, 5, 6, 7, 8, 9, 10, 11, 0, 1, 2] rfl) (hD.sub [12, 13, 14, 3, 4, 5, 6, 7, 8, 9, 10, 11, 0, 1, 2] (by decide) rfl) hS (lv_sub hl [0, 2, 3, 4, 5, 6] rfl)
            · have hF := hF.trans (if_pos c_5)
              refine lv_aload_n hx hb d_Reckoner_reckonSide_56 rfl (lv_at hl 2 rfl) ?_
              refine lv_aload_n hx hb d_Reckoner_reckonSide_57 rfl (lv_at hl 4 rfl) ?_
              refine lv_aload_n hx hb d_Reckoner_reckonSide_58 rfl (lv_at hl 3 rfl) ?_
              refine lv_iload hx hb d_Reckoner_reckonSide_59 (lv_at hl 1 rfl) ?_
              have hPc := hP.sub (ws' := [(oB, .inr (0, [.ref gN, .ref gD, .ref gC, .int rc, .ref gS, .ref gL, .ref gR, .int cc_, .ref gK, .ref gW, .int sc])), (gN, .inl (cJ, 12, .inr (.inl bn))), (gD, .inl (cJ, 12, .inr (.inl bd))), (gC, .inl (cI, 12, .inl bc)), (gS, .inl (cI, 30, .inl bs)), (gL, .inl (cI, 30, .inl bl)), (gR, .inl (cI, 30, .inl br)), (gK, .inl (cI, 120, .inl bk)), (gW, .inl (cJ, 120, .inr (.inl bw)))]) [6, 7, 8, 9, 10, 11, 12, 13, 14] rfl
              have hDc := hD.sub (ws' := [(oB, .inr (0, [.ref gN, .ref gD, .ref gC, .int rc, .ref gS, .ref gL, .ref gR, .int cc_, .ref gK, .ref gW, .int sc])), (gN, .inl (cJ, 12, .inr (.inl bn))), (gD, .inl (cJ, 12, .inr (.inl bd))), (gC, .inl (cI, 12, .inl bc)), (gS, .inl (cI, 30, .inl bs)), (gL, .inl (cI, 30, .inl bl)), (gR, .inl (cI, 30, .inl br)), (gK, .inl (cI, 120, .inl bk)), (gW, .inl (cJ, 120, .inr (.inl bw)))]) [6, 7, 8, 9, 10, 11, 12, 13, 14] (by decide) rfl
              have hFc := va_free (wc := [(oB, .inr (0, [.ref gN, .ref gD, .ref gC, .int rc, .ref gS, .ref gL, .ref gR, .int cc_, .ref gK, .ref gW, .int sc])), (gN, .inl (cJ, 12, .inr (.inl bn))), (gD, .inl (cJ, 12, .inr (.inl bd))), (gC, .inl (cI, 12, .inl bc)), (gS, .inl (cI, 30, .inl bs)), (gL, .inl (cI, 30, .inl bl)), (gR, .inl (cI, 30, .inl br)), (gK, .inl (cI, 120, .inl bk)), (gW, .inl (cJ, 120, .inr (.inl bw)))]) hD hS hA [6, 7, 8, 9, 10, 11, 12, 13, 14] rfl
              refine va_calll (va_runV (As := [.int i]) (rest := [.ref oF, .ref oR]) ⟨hx, hb, hml, hown, htb⟩ (c_Book_worthAt l dC dI cB cI cJ oB gN gD gC gS gL gR gK gW _ i rc cc_ sc bn bd bc bs bl br bk bw ) ⟨callB_of 1 htb (gb_all mb_532) rfl rfl rfl (htb _ mb_8) (htb _ mb_529) (by decide +kernel) ⟨Nat.le_of_ble_eq_true rfl, Nat.le_of_ble_eq_true rfl⟩, htb _ mb_530, htb _ mb_531⟩ ⟨kb_blind, va_recv hK hPc (ci := 0) (q0 := 0) rfl rfl, kb_at hPc hDc hKx⟩ rfl rfl hl.1 rfl (lv_room (Nat.le_of_ble_eq_true rfl)) d_Reckoner_reckonSide_61 ⟨Nat.le_of_ble_eq_true rfl, Nat.le_of_ble_eq_true rfl⟩) hS (fun q _ h => hFc q h) hFc (fun z_7 u t H1 locs ht hvm hw hB hz1 hk1 hS => ?_)
              have hz_7 := hw
              have hF := hF.trans (lt_e hz_7)
              obtain ⟨hP1, hD1⟩ := hB
              rw [ht] at hP1
              obtain ⟨hP, hD⟩ := va_join (wr := [(oR, .inr (4, [.ref aU, .ref aL, .int xe, .int xy, .long xi])), (aU, .inl (cJ, 19, .inr (.inl xu))), (aL, .inl (cJ, 19, .inr (.inl xl))), (oF, .inr (1, [.ref aN, .ref aV, .int fz])), (aN, .inl (cJ, 40, .inr (.inl fn))), (aV, .inl (cI, 40, .inl fv))]) (w1 := [(oB, .inr (0, [.ref gN, .ref gD, .ref gC, .int rc, .ref gS, .ref gL, .ref gR, .int cc_, .ref gK, .ref gW, .int sc])), (gN, .inl (cJ, 12, .inr (.inl bn))), (gD, .inl (cJ, 12, .inr (.inl bd))), (gC, .inl (cI, 12, .inl bc)), (gS, .inl (cI, 30, .inl bs)), (gL, .inl (cI, 30, .inl bl)), (gR, .inl (cI, 30, .inl br)), (gK, .inl (cI, 120, .inl bk)), (gW, .inl (cJ, 120, .inr (.inl bw)))]) hP hD [6, 7, 8, 9, 10, 11, 12, 13, 14] [0, 1, 2, 3, 4, 5] rfl rfl (by decide) (by decide) hk1 hFc hP1 hD1
              generalize H1 = H at hP hS ⊢
              have hP : va_P (dC, dI) vwCl [(oR, .inr (4, [.ref aU, .ref aL, .int xe, .int xy, .long xi])), (aU, .inl (cJ, 19, .inr (.inl xu))), (aL, .inl (cJ, 19, .inr (.inl xl))), (oF, .inr (1, [.ref aN, .ref aV, .int fz])), (aN, .inl (cJ, 40, .inr (.inl fn))), (aV, .inl (cI, 40, .inl fv)), (oB, .inr (0, [.ref gN, .ref gD, .ref gC, .int rc, .ref gS, .ref gL, .ref gR, .int cc_, .ref gK, .ref gW, .int sc])), (gN, .inl (cJ, 12, .inr (.inl bn))), (gD, .inl (cJ, 12, .inr (.inl bd))), (gC, .inl (cI, 12, .inl bc)), (gS, .inl (cI, 30, .inl bs)), (gL, .inl (cI, 30, .inl bl)), (gR, .inl (cI, 30, .inl br)), (gK, .inl (cI, 120, .inl bk)), (gW, .inl (cJ, 120, .inr (.inl bw)))] H := hP
              have hD : va_D A [(oR, .inr (4, [.ref aU, .ref aL, .int xe, .int xy, .long xi])), (aU, .inl (cJ, 19, .inr (.inl xu))), (aL, .inl (cJ, 19, .inr (.inl xl))), (oF, .inr (1, [.ref aN, .ref aV, .int fz])), (aN, .inl (cJ, 40, .inr (.inl fn))), (aV, .inl (cI, 40, .inl fv)), (oB, .inr (0, [.ref gN, .ref gD, .ref gC, .int rc, .ref gS, .ref gL, .ref gR, .int cc_, .ref gK, .ref gW, .int sc])), (gN, .inl (cJ, 12, .inr (.inl bn))), (gD, .inl (cJ, 12, .inr (.inl bd))), (gC, .inl (cI, 12, .inl bc)), (gS, .inl (cI, 30, .inl bs)), (gL, .inl (cI, 30, .inl bl)), (gR, .inl (cI, 30, .inl br)), (gK, .inl (cI, 120, .inl bk)), (gW, .inl (cJ, 120, .inr (.inl bw)))] := hD
              have hPc := hP.sub (ws' := [(oR, .inr (4, [.ref aU, .ref aL, .int xe, .int xy, .long xi])), (aU, .inl (cJ, 19, .inr (.inl xu))), (aL, .inl (cJ, 19, .inr (.inl xl))), (oF, .inr (1, [.ref aN, .ref aV, .int fz])), (aN, .inl (cJ, 40, .inr (.inl fn))), (aV, .inl (cI, 40, .inl fv))]) [0, 1, 2, 3, 4, 5] rfl
              have hDc := hD.sub (ws' := [(oR, .inr (4, [.ref aU, .ref aL, .int xe, .int xy, .long xi])), (aU, .inl (cJ, 19, .inr (.inl xu))), (aL, .inl (cJ, 19, .inr (.inl xl))), (oF, .inr (1, [.ref aN, .ref aV, .int fz])), (aN, .inl (cJ, 40, .inr (.inl fn))), (aV, .inl (cI, 40, .inl fv))]) [0, 1, 2, 3, 4, 5] (by decide) rfl
              have hFc := va_free (wc := [(oR, .inr (4, [.ref aU, .ref aL, .int xe, .int xy, .long xi])), (aU, .inl (cJ, 19, .inr (.inl xu))), (aL, .inl (cJ, 19, .inr (.inl xl))), (oF, .inr (1, [.ref aN, .ref aV, .int fz])), (aN, .inl (cJ, 40, .inr (.inl fn))), (aV, .inl (cI, 40, .inl fv))]) hD hS hA [0, 1, 2, 3, 4, 5] rfl
              refine va_callv (va_runV (As := [.ref oF, .long z_7]) (rest := []) ⟨hx, hb, hml, hown, htb⟩ (c_Reckoner_pushFact l dC dI cB cI cJ oR aU aL oF aN aV _ z_7 xe xy xi xu xl fz fn fv ) ⟨callB_of 2 htb (gb_all mb_540) rfl rfl rfl (htb _ mb_7) (htb _ mb_537) (by decide +kernel) ⟨Nat.le_of_ble_eq_true rfl, Nat.le_of_ble_eq_true rfl⟩, htb _ mb_539, htb _ mp_8⟩ ⟨kb_blind, va_recv hK hPc (ci := 4) (q0 := 0) rfl rfl, kb_at hPc hDc hKx⟩ rfl rfl hl.1 rfl (lv_room (Nat.le_of_ble_eq_true rfl)) d_Reckoner_reckonSide_64 ⟨Nat.le_of_ble_eq_true rfl, Nat.le_of_ble_eq_true rfl⟩) hS (fun q _ h => hFc q h) hFc (fun z_8 t H1 locs ht hvm hw hB hz1 hk1 hS => ?_)
              have hz_8 := hw
              have hF := hF.trans (lt_e hz_8)
              obtain ⟨hP1, hD1⟩ := hB
              rw [ht] at hP1
              obtain ⟨hP, hD⟩ := va_join (wr := [(oB, .inr (0, [.ref gN, .ref gD, .ref gC, .int rc, .ref gS, .ref gL, .ref gR, .int cc_, .ref gK, .ref gW, .int sc])), (gN, .inl (cJ, 12, .inr (.inl bn))), (gD, .inl (cJ, 12, .inr (.inl bd))), (gC, .inl (cI, 12, .inl bc)), (gS, .inl (cI, 30, .inl bs)), (gL, .inl (cI, 30, .inl bl)), (gR, .inl (cI, 30, .inl br)), (gK, .inl (cI, 120, .inl bk)), (gW, .inl (cJ, 120, .inr (.inl bw)))]) (w1 := [(oR, .inr (4, [.ref aU, .ref aL, .int z_8.1, .int z_8.2.1, .long z_8.2.2.1])), (aU, .inl (cJ, 19, .inr (.inl z_8.2.2.2.1))), (aL, .inl (cJ, 19, .inr (.inl z_8.2.2.2.2))), (oF, .inr (1, [.ref aN, .ref aV, .int fz])), (aN, .inl (cJ, 40, .inr (.inl fn))), (aV, .inl (cI, 40, .inl fv))]) hP hD [0, 1, 2, 3, 4, 5] [6, 7, 8, 9, 10, 11, 12, 13, 14] rfl rfl (by decide) (by decide) hk1 hFc hP1 hD1
              generalize H1 = H at hP hS ⊢
              have hP : va_P (dC, dI) vwCl [(oB, .inr (0, [.ref gN, .ref gD, .ref gC, .int rc, .ref gS, .ref gL, .ref gR, .int cc_, .ref gK, .ref gW, .int sc])), (gN, .inl (cJ, 12, .inr (.inl bn))), (gD, .inl (cJ, 12, .inr (.inl bd))), (gC, .inl (cI, 12, .inl bc)), (gS, .inl (cI, 30, .inl bs)), (gL, .inl (cI, 30, .inl bl)), (gR, .inl (cI, 30, .inl br)), (gK, .inl (cI, 120, .inl bk)), (gW, .inl (cJ, 120, .inr (.inl bw))), (oR, .inr (4, [.ref aU, .ref aL, .int z_8.1, .int z_8.2.1, .long z_8.2.2.1])), (aU, .inl (cJ, 19, .inr (.inl z_8.2.2.2.1))), (aL, .inl (cJ, 19, .inr (.inl z_8.2.2.2.2))), (oF, .inr (1, [.ref aN, .ref aV, .int fz])), (aN, .inl (cJ, 40, .inr (.inl fn))), (aV, .inl (cI, 40, .inl fv))] H := hP
              have hD : va_D A [(oB, .inr (0, [.ref gN, .ref gD, .ref gC, .int rc, .ref gS, .ref gL, .ref gR, .int cc_, .ref gK, .ref gW, .int sc])), (gN, .inl (cJ, 12, .inr (.inl bn))), (gD, .inl (cJ, 12, .inr (.inl bd))), (gC, .inl (cI, 12, .inl bc)), (gS, .inl (cI, 30, .inl bs)), (gL, .inl (cI, 30, .inl bl)), (gR, .inl (cI, 30, .inl br)), (gK, .inl (cI, 120, .inl bk)), (gW, .inl (cJ, 120, .inr (.inl bw))), (oR, .inr (4, [.ref aU, .ref aL, .int z_8.1, .int z_8.2.1, .long z_8.2.2.1])), (aU, .inl (cJ, 19, .inr (.inl z_8.2.2.2.1))), (aL, .inl (cJ, 19, .inr (.inl z_8.2.2.2.2))), (oF, .inr (1, [.ref aN, .ref aV, .int fz])), (aN, .inl (cJ, 40, .inr (.inl fn))), (aV, .inl (cI, 40, .inl fv))] := hD
              refine lv_goto (tgt := 76) hx hb d_Reckoner_reckonSide_67 (by decide) ?_
              refine lv_iinc (v := i + 1) (lv' := [(5, .int (i + 1)), (6, .int z_3), (0, .ref oR), (1, .ref oB), (2, .ref oF), (3, .int fr), (4, .int bh)]) hx hb d_Reckoner_reckonSide_76 hl (k := 1) rfl (by first | rfl | decide) (by decide) rfl (fun ls hl => ?_)
              refine lv_goto (tgt := 8) hx hb d_Reckoner_reckonSide_79 (by decide) ?_
              exact ih (i + 1) z_8.1 z_8.2.1 z_8.2.2.1 z_8.2.2.2.1 z_8.2.2.2.2 (oi_u c_1 hn) hF _ _ _ (hP.sub [9, 10, 11, 0, 1, 2, 3, 4, 5, 6, 7, 8, 12, 13, 14] rfl) (hD.sub [9, 10, 11, 0, 1, 2, 3, 4, 5, 6, 7, 8, 12, 13, 14] (by decide) rfl) hS (lv_sub hl [0, 2, 3, 4, 5, 6] rfl)
          · have hF := hF.trans (if_pos c_4)
            refine lv_aload_n hx hb d_Reckoner_reckonSide_36 rfl (lv_at hl 2 rfl) ?_
            refine lv_aload_n hx hb d_Reckoner_reckonSide_37 rfl (lv_at hl 3 rfl) ?_
            refine lv_iload hx hb d_Reckoner_reckonSide_38 (lv_at hl 1 rfl) ?_
            have hPc := hP.sub (ws' := [(oB, .inr (0, [.ref gN, .ref gD, .ref gC, .int rc, .ref gS, .ref gL, .ref gR, .int cc_, .ref gK, .ref gW, .int sc])), (gN, .inl (cJ, 12, .inr (.inl bn))), (gD, .inl (cJ, 12, .inr (.inl bd))), (gC, .inl (cI, 12, .inl bc)), (gS, .inl (cI, 30, .inl bs)), (gL, .inl (cI, 30, .inl bl)), (gR, .inl (cI, 30, .inl br)), (gK, .inl (cI, 120, .inl bk)), (gW, .inl (cJ, 120, .inr (.inl bw)))]) [6, 7, 8, 9, 10, 11, 12, 13, 14] rfl
            have hDc := hD.sub (ws' := [(oB, .inr (0, [.ref gN, .ref gD, .ref gC, .int rc, .ref gS, .ref gL, .ref gR, .int cc_, .ref gK, .ref gW, .int sc])), (gN, .inl (cJ, 12, .inr (.inl bn))), (gD, .inl (cJ, 12, .inr (.inl bd))), (gC, .inl (cI, 12, .inl bc)), (gS, .inl (cI, 30, .inl bs)), (gL, .inl (cI, 30, .inl bl)), (gR, .inl (cI, 30, .inl br)), (gK, .inl (cI, 120, .inl bk)), (gW, .inl (cJ, 120, .inr (.inl bw)))]) [6, 7, 8, 9, 10, 11, 12, 13, 14] (by decide) rfl
            have hFc := va_free (wc := [(oB, .inr (0, [.ref gN, .ref gD, .ref gC, .int rc, .ref gS, .ref gL, .ref gR, .int cc_, .ref gK, .ref gW, .int sc])), (gN, .inl (cJ, 12, .inr (.inl bn))), (gD, .inl (cJ, 12, .inr (.inl bd))), (gC, .inl (cI, 12, .inl bc)), (gS, .inl (cI, 30, .inl bs)), (gL, .inl (cI, 30, .inl bl)), (gR, .inl (cI, 30, .inl br)), (gK, .inl (cI, 120, .inl bk)), (gW, .inl (cJ, 120, .inr (.inl bw)))]) hD hS hA [6, 7, 8, 9, 10, 11, 12, 13, 14] rfl
            refine va_calll (va_runV (As := [.int i]) (rest := [.ref oR]) ⟨hx, hb, hml, hown, htb⟩ (c_Book_worthAt l dC dI cB cI cJ oB gN gD gC gS gL gR gK gW _ i rc cc_ sc bn bd bc bs bl br bk bw ) ⟨callB_of 1 htb (gb_all mb_532) rfl rfl rfl (htb _ mb_8) (htb _ mb_529) (by decide +kernel) ⟨Nat.le_of_ble_eq_true rfl, Nat.le_of_ble_eq_true rfl⟩, htb _ mb_530, htb _ mb_531⟩ ⟨kb_blind, va_recv hK hPc (ci := 0) (q0 := 0) rfl rfl, kb_at hPc hDc hKx⟩ rfl rfl hl.1 rfl (lv_room (Nat.le_of_ble_eq_true rfl)) d_Reckoner_reckonSide_40 ⟨Nat.le_of_ble_eq_true rfl, Nat.le_of_ble_eq_true rfl⟩) hS (fun q _ h => hFc q h) hFc (fun z_9 u t H1 locs ht hvm hw hB hz1 hk1 hS => ?_)
            have hz_9 := hw
            have hF := hF.trans (lt_e hz_9)
            obtain ⟨hP1, hD1⟩ := hB
            rw [ht] at hP1
            obtain ⟨hP, hD⟩ := va_join (wr := [(oR, .inr (4, [.ref aU, .ref aL, .int xe, .int xy, .long xi])), (aU, .inl (cJ, 19, .inr (.inl xu))), (aL, .inl (cJ, 19, .inr (.inl xl))), (oF, .inr (1, [.ref aN, .ref aV, .int fz])), (aN, .inl (cJ, 40, .inr (.inl fn))), (aV, .inl (cI, 40, .inl fv))]) (w1 := [(oB, .inr (0, [.ref gN, .ref gD, .ref gC, .int rc, .ref gS, .ref gL, .ref gR, .int cc_, .ref gK, .ref gW, .int sc])), (gN, .inl (cJ, 12, .inr (.inl bn))), (gD, .inl (cJ, 12, .inr (.inl bd))), (gC, .inl (cI, 12, .inl bc)), (gS, .inl (cI, 30, .inl bs)), (gL, .inl (cI, 30, .inl bl)), (gR, .inl (cI, 30, .inl br)), (gK, .inl (cI, 120, .inl bk)), (gW, .inl (cJ, 120, .inr (.inl bw)))]) hP hD [6, 7, 8, 9, 10, 11, 12, 13, 14] [0, 1, 2, 3, 4, 5] rfl rfl (by decide) (by decide) hk1 hFc hP1 hD1
            generalize H1 = H at hP hS ⊢
            have hP : va_P (dC, dI) vwCl [(oR, .inr (4, [.ref aU, .ref aL, .int xe, .int xy, .long xi])), (aU, .inl (cJ, 19, .inr (.inl xu))), (aL, .inl (cJ, 19, .inr (.inl xl))), (oF, .inr (1, [.ref aN, .ref aV, .int fz])), (aN, .inl (cJ, 40, .inr (.inl fn))), (aV, .inl (cI, 40, .inl fv)), (oB, .inr (0, [.ref gN, .ref gD, .ref gC, .int rc, .ref gS, .ref gL, .ref gR, .int cc_, .ref gK, .ref gW, .int sc])), (gN, .inl (cJ, 12, .inr (.inl bn))), (gD, .inl (cJ, 12, .inr (.inl bd))), (gC, .inl (cI, 12, .inl bc)), (gS, .inl (cI, 30, .inl bs)), (gL, .inl (cI, 30, .inl bl)), (gR, .inl (cI, 30, .inl br)), (gK, .inl (cI, 120, .inl bk)), (gW, .inl (cJ, 120, .inr (.inl bw)))] H := hP
            have hD : va_D A [(oR, .inr (4, [.ref aU, .ref aL, .int xe, .int xy, .long xi])), (aU, .inl (cJ, 19, .inr (.inl xu))), (aL, .inl (cJ, 19, .inr (.inl xl))), (oF, .inr (1, [.ref aN, .ref aV, .int fz])), (aN, .inl (cJ, 40, .inr (.inl fn))), (aV, .inl (cI, 40, .inl fv)), (oB, .inr (0, [.ref gN, .ref gD, .ref gC, .int rc, .ref gS, .ref gL, .ref gR, .int cc_, .ref gK, .ref gW, .int sc])), (gN, .inl (cJ, 12, .inr (.inl bn))), (gD, .inl (cJ, 12, .inr (.inl bd))), (gC, .inl (cI, 12, .inl bc)), (gS, .inl (cI, 30, .inl bs)), (gL, .inl (cI, 30, .inl bl)), (gR, .inl (cI, 30, .inl br)), (gK, .inl (cI, 120, .inl bk)), (gW, .inl (cJ, 120, .inr (.inl bw)))] := hD
            refine lv_lconst (v := 1) hx hb d_Reckoner_reckonSide_43 (by decide) ?_
            have hPc := hP.sub (ws' := [(oR, .inr (4, [.ref aU, .ref aL, .int xe, .int xy, .long xi])), (aU, .inl (cJ, 19, .inr (.inl xu))), (aL, .inl (cJ, 19, .inr (.inl xl)))]) [0, 1, 2] rfl
            have hDc := hD.sub (ws' := [(oR, .inr (4, [.ref aU, .ref aL, .int xe, .int xy, .long xi])), (aU, .inl (cJ, 19, .inr (.inl xu))), (aL, .inl (cJ, 19, .inr (.inl xl)))]) [0, 1, 2] (by decide) rfl
            have hFc := va_free (wc := [(oR, .inr (4, [.ref aU, .ref aL, .int xe, .int xy, .long xi])), (aU, .inl (cJ, 19, .inr (.inl xu))), (aL, .inl (cJ, 19, .inr (.inl xl)))]) hD hS hA [0, 1, 2] rfl
            refine va_callv (va_runV (As := [.long z_9, .long 1]) (rest := []) ⟨hx, hb, hml, hown, htb⟩ (c_Reckoner_push l dC dI cB cI cJ oR aU aL _ z_9 1 xe xy xi xu xl ) ⟨callB_of 2 htb (gb_all mb_536) rfl rfl rfl (htb _ mb_7) (htb _ mb_533) (by decide +kernel) ⟨Nat.le_of_ble_eq_true rfl, Nat.le_of_ble_eq_true rfl⟩, htb _ mb_535, htb _ mp_7⟩ ⟨kb_blind, va_recv hK hPc (ci := 4) (q0 := 0) rfl rfl, kb_at hPc hDc hKx⟩ rfl rfl hl.1 rfl (lv_room (Nat.le_of_ble_eq_true rfl)) d_Reckoner_reckonSide_44 ⟨Nat.le_of_ble_eq_true rfl, Nat.le_of_ble_eq_true rfl⟩) hS (fun q _ h => hFc q h) hFc (fun z_10 t H1 locs ht hvm hw hB hz1 hk1 hS => ?_)
            have hz_10 := hw
            have hF := hF.trans (lt_e hz_10)
            obtain ⟨hP1, hD1⟩ := hB
            rw [ht] at hP1
            obtain ⟨hP, hD⟩ := va_join (wr := [(oF, .inr (1, [.ref aN, .ref aV, .int fz])), (aN, .inl (cJ, 40, .inr (.inl fn))), (aV, .inl (cI, 40, .inl fv)), (oB, .inr (0, [.ref gN, .ref gD, .ref gC, .int rc, .ref gS, .ref gL, .ref gR, .int cc_, .ref gK, .ref gW, .int sc])), (gN, .inl (cJ, 12, .inr (.inl bn))), (gD, .inl (cJ, 12, .inr (.inl bd))), (gC, .inl (cI, 12, .inl bc)), (gS, .inl (cI, 30, .inl bs)), (gL, .inl (cI, 30, .inl bl)), (gR, .inl (cI, 30, .inl br)), (gK, .inl (cI, 120, .inl bk)), (gW, .inl (cJ, 120, .inr (.inl bw)))]) (w1 := [(oR, .inr (4, [.ref aU, .ref aL, .int z_10.1, .int xy, .long xi])), (aU, .inl (cJ, 19, .inr (.inl z_10.2.1))), (aL, .inl (cJ, 19, .inr (.inl z_10.2.2)))]) hP hD [0, 1, 2] [3, 4, 5, 6, 7, 8, 9, 10, 11, 12, 13, 14] rfl rfl (by decide) (by decide) hk1 hFc hP1 hD1
            generalize H1 = H at hP hS ⊢
            have hP : va_P (dC, dI) vwCl [(oF, .inr (1, [.ref aN, .ref aV, .int fz])), (aN, .inl (cJ, 40, .inr (.inl fn))), (aV, .inl (cI, 40, .inl fv)), (oB, .inr (0, [.ref gN, .ref gD, .ref gC, .int rc, .ref gS, .ref gL, .ref gR, .int cc_, .ref gK, .ref gW, .int sc])), (gN, .inl (cJ, 12, .inr (.inl bn))), (gD, .inl (cJ, 12, .inr (.inl bd))), (gC, .inl (cI, 12, .inl bc)), (gS, .inl (cI, 30, .inl bs)), (gL, .inl (cI, 30, .inl bl)), (gR, .inl (cI, 30, .inl br)), (gK, .inl (cI, 120, .inl bk)), (gW, .inl (cJ, 120, .inr (.inl bw))), (oR, .inr (4, [.ref aU, .ref aL, .int z_10.1, .int xy, .long xi])), (aU, .inl (cJ, 19, .inr (.inl z_10.2.1))), (aL, .inl (cJ, 19, .inr (.inl z_10.2.2)))] H := hP
            have hD : va_D A [(oF, .inr (1, [.ref aN, .ref aV, .int fz])), (aN, .inl (cJ, 40, .inr (.inl fn))), (aV, .inl (cI, 40, .inl fv)), (oB, .inr (0, [.ref gN, .ref gD, .ref gC, .int rc, .ref gS, .ref gL, .ref gR, .int cc_, .ref gK, .ref gW, .int sc])), (gN, .inl (cJ, 12, .inr (.inl bn))), (gD, .inl (cJ, 12, .inr (.inl bd))), (gC, .inl (cI, 12, .inl bc)), (gS, .inl (cI, 30, .inl bs)), (gL, .inl (cI, 30, .inl bl)), (gR, .inl (cI, 30, .inl br)), (gK, .inl (cI, 120, .inl bk)), (gW, .inl (cJ, 120, .inr (.inl bw))), (oR, .inr (4, [.ref aU, .ref aL, .int z_10.1, .int xy, .long xi])), (aU, .inl (cJ, 19, .inr (.inl z_10.2.1))), (aL, .inl (cJ, 19, .inr (.inl z_10.2.2)))] := hD
            refine lv_goto (tgt := 76) hx hb d_Reckoner_reckonSide_47 (by decide) ?_
            refine lv_iinc (v := i + 1) (lv' := [(5, .int (i + 1)), (6, .int z_3), (0, .ref oR), (1, .ref oB), (2, .ref oF), (3, .int fr), (4, .int bh)]) hx hb d_Reckoner_reckonSide_76 hl (k := 1) rfl (by first | rfl | decide) (by decide) rfl (fun ls hl => ?_)
            refine lv_goto (tgt := 8) hx hb d_Reckoner_reckonSide_79 (by decide) ?_
            exact ih (i + 1) z_10.1 xy xi z_10.2.1 z_10.2.2 (oi_u c_1 hn) hF _ _ _ (hP.sub [12, 13, 14, 3, 4, 5, 6, 7, 8, 9, 10, 11, 0, 1, 2] rfl) (hD.sub [12, 13, 14, 3, 4, 5, 6, 7, 8, 9, 10, 11, 0, 1, 2] (by decide) rfl) hS (lv_sub hl [0, 2, 3, 4, 5, 6] rfl)
  refine lv_aload_n hx hb d_Reckoner_reckonSide_0 rfl (lv_at hl 0 rfl) ?_
  refine lv_iconst (v := 0) hx hb d_Reckoner_reckonSide_1 (by decide) ?_
  refine va_put (D := (dC, dI)) (ci := 4) (v := .int 0) (ty := .int) (C := "PermitRules$Reckoner") (T := T_Reckoner) (N := 5) hx hb htb in_Reckoner ty_Reckoner to_Reckoner nm_Reckoner hown hK hP hD hS 0 rfl rfl 2 (by decide) (htb _ mb_100) (fun _ h9 => h9) rfl (by decide +kernel) rfl rfl (Nat.le_of_ble_eq_true rfl) d_Reckoner_reckonSide_2 (fun H locs hP hD hS => ?_)
  have hP : va_P (dC, dI) vwCl [(oR, .inr (4, [.ref aU, .ref aL, .int 0, .int wy, .long mi])), (aU, .inl (cJ, 19, .inr (.inl ru))), (aL, .inl (cJ, 19, .inr (.inl rl))), (oB, .inr (0, [.ref gN, .ref gD, .ref gC, .int rc, .ref gS, .ref gL, .ref gR, .int cc_, .ref gK, .ref gW, .int sc])), (gN, .inl (cJ, 12, .inr (.inl bn))), (gD, .inl (cJ, 12, .inr (.inl bd))), (gC, .inl (cI, 12, .inl bc)), (gS, .inl (cI, 30, .inl bs)), (gL, .inl (cI, 30, .inl bl)), (gR, .inl (cI, 30, .inl br)), (gK, .inl (cI, 120, .inl bk)), (gW, .inl (cJ, 120, .inr (.inl bw))), (oF, .inr (1, [.ref aN, .ref aV, .int fz])), (aN, .inl (cJ, 40, .inr (.inl fn))), (aV, .inl (cI, 40, .inl fv))] H := hP
  have hD : va_D A [(oR, .inr (4, [.ref aU, .ref aL, .int 0, .int wy, .long mi])), (aU, .inl (cJ, 19, .inr (.inl ru))), (aL, .inl (cJ, 19, .inr (.inl rl))), (oB, .inr (0, [.ref gN, .ref gD, .ref gC, .int rc, .ref gS, .ref gL, .ref gR, .int cc_, .ref gK, .ref gW, .int sc])), (gN, .inl (cJ, 12, .inr (.inl bn))), (gD, .inl (cJ, 12, .inr (.inl bd))), (gC, .inl (cI, 12, .inl bc)), (gS, .inl (cI, 30, .inl bs)), (gL, .inl (cI, 30, .inl bl)), (gR, .inl (cI, 30, .inl br)), (gK, .inl (cI, 120, .inl bk)), (gW, .inl (cJ, 120, .inr (.inl bw))), (oF, .inr (1, [.ref aN, .ref aV, .int fz])), (aN, .inl (cJ, 40, .inr (.inl fn))), (aV, .inl (cI, 40, .inl fv))] := hD
  refine lv_iload_n hx hb d_Reckoner_reckonSide_5 rfl (lv_at hl 3 rfl) ?_
  refine lv_istore (lv' := [(5, .int fr), (0, .ref oR), (1, .ref oB), (2, .ref oF), (3, .int fr), (4, .int bh)]) hx hb d_Reckoner_reckonSide_6 hl (by decide) rfl (fun ls hl => ?_)
  exact lp8 ((bh.toInt - fr.toInt).toNat + 1) fr 0 wy mi ru rl (Nat.lt_succ_self _) hF _ _ _ (hP.sub [0, 1, 2, 3, 4, 5, 6, 7, 8, 9, 10, 11, 12, 13, 14] rfl) (hD.sub [0, 1, 2, 3, 4, 5, 6, 7, 8, 9, 10, 11, 12, 13, 14] (by decide) rfl) hS (lv_sub hl [0, 1, 2, 3, 4, 5] rfl)
