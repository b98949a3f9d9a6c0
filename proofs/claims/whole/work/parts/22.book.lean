def f_Book_empty : Int32 × Int32 × Int32 := (0, 0, 0)
abbrev q_Book_empty (dC : Nat → ClassId) (dI : Nat → Nat → Nat) (cB cI cJ : ClassId) (oB gN gD gC gS gL gR gK gW : Nat) (rc : Int32) (cc_ : Int32) (sc : Int32) (bn : (Nat → Int64)) (bd : (Nat → Int64)) (bc : (Nat → Int32)) (bs : (Nat → Int32)) (bl : (Nat → Int32)) (br : (Nat → Int32)) (bk : (Nat → Int32)) (bw : (Nat → Int64)) (A : Nat → Prop) : Array Value → State → Outcome → State → Prop := va_Qv (fun u : Int32 × Int32 × Int32 => u = f_Book_empty) (fun u t => va_P (dC, dI) vwCl [(oB, .inr (0, [.ref gN, .ref gD, .ref gC, .int u.1, .ref gS, .ref gL, .ref gR, .int u.2.1, .ref gK, .ref gW, .int u.2.2])), (gN, .inl (cJ, 12, .inr (.inl bn))), (gD, .inl (cJ, 12, .inr (.inl bd))), (gC, .inl (cI, 12, .inl bc)), (gS, .inl (cI, 30, .inl bs)), (gL, .inl (cI, 30, .inl bl)), (gR, .inl (cI, 30, .inl br)), (gK, .inl (cI, 120, .inl bk)), (gW, .inl (cJ, 120, .inr (.inl bw)))] t.heap ∧ va_D A [(oB, .inr (0, [.ref gN, .ref gD, .ref gC, .int u.1, .ref gS, .ref gL, .ref gR, .int u.2.1, .ref gK, .ref gW, .int u.2.2])), (gN, .inl (cJ, 12, .inr (.inl bn))), (gD, .inl (cJ, 12, .inr (.inl bd))), (gC, .inl (cI, 12, .inl bc)), (gS, .inl (cI, 30, .inl bs)), (gL, .inl (cI, 30, .inl bl)), (gR, .inl (cI, 30, .inl br)), (gK, .inl (cI, 120, .inl bk)), (gW, .inl (cJ, 120, .inr (.inl bw)))]) A
set_option maxHeartbeats 4000000 in
set_option maxRecDepth 100000 in
theorem c_Book_empty (l : Launch) (dC : Nat → ClassId) (dI : Nat → Nat → Nat) (cB cI cJ : ClassId) (oB gN gD gC gS gL gR gK gW : Nat) (sz : Nat) (rc : Int32) (cc_ : Int32) (sc : Int32) (bn : (Nat → Int64)) (bd : (Nat → Int64)) (bc : (Nat → Int32)) (bs : (Nat → Int32)) (bl : (Nat → Int32)) (br : (Nat → Int32)) (bk : (Nat → Int32)) (bw : (Nat → Int64)) : Met l y_Book_empty (cw_Book_empty :: bgw) { frames := 0, cells := 0, slots := 0, locals := 0 } (va_Pc [.ref oB] (kb_B dC dI cB cI cJ [(oB, .inr (0, [.ref gN, .ref gD, .ref gC, .int rc, .ref gS, .ref gL, .ref gR, .int cc_, .ref gK, .ref gW, .int sc])), (gN, .inl (cJ, 12, .inr (.inl bn))), (gD, .inl (cJ, 12, .inr (.inl bd))), (gC, .inl (cI, 12, .inl bc)), (gS, .inl (cI, 30, .inl bs)), (gL, .inl (cI, 30, .inl bl)), (gR, .inl (cI, 30, .inl br)), (gK, .inl (cI, 120, .inl bk)), (gW, .inl (cJ, 120, .inr (.inl bw)))] sz)) (q_Book_empty dC dI cB cI cJ oB gN gD gC gS gL gR gK gW rc cc_ sc bn bd bc bs bl br bk bw (va_A [(oB, .inr (0, [.ref gN, .ref gD, .ref gC, .int rc, .ref gS, .ref gL, .ref gR, .int cc_, .ref gK, .ref gW, .int sc])), (gN, .inl (cJ, 12, .inr (.inl bn))), (gD, .inl (cJ, 12, .inr (.inl bd))), (gC, .inl (cI, 12, .inl bc)), (gS, .inl (cI, 30, .inl bs)), (gL, .inl (cI, 30, .inl bl)), (gR, .inl (cI, 30, .inl br)), (gK, .inl (cI, 120, .inl bk)), (gW, .inl (cJ, 120, .inr (.inl bw)))] sz)) 0 0 (va_A [(oB, .inr (0, [.ref gN, .ref gD, .ref gC, .int rc, .ref gS, .ref gL, .ref gR, .int cc_, .ref gK, .ref gW, .int sc])), (gN, .inl (cJ, 12, .inr (.inl bn))), (gD, .inl (cJ, 12, .inr (.inl bd))), (gC, .inl (cI, 12, .inl bc)), (gS, .inl (cI, 30, .inl bs)), (gL, .inl (cI, 30, .inl bl)), (gR, .inl (cI, 30, .inl br)), (gK, .inl (cI, 120, .inl bk)), (gW, .inl (cJ, 120, .inr (.inl bw)))] sz) := by
  refine Met.ofW (cc := prog_2_method_2_code) (maxL := 1) (ret := none) (by decide) rfl ?_
  intro p e s m args below meth c s₁ B hml hv
  obtain ⟨rfl, hsz, hP, hKx, hD0⟩ := hv
  have hx := B.exec
  have hb := B.bytes
  have hr := B.returns
  have hts := atoms_spec (ws := (cw_Book_empty :: bgw)) B.pre
  have hown : s.vm.findClass "PermitRules$Book" = some m.cls := findClass_of_methodNamed B.named
  have hlocks := B.notSynchronized
  have htb := fun (w : Cond) (h : w ∈ bgw) => hts w (List.mem_cons_of_mem _ h)
  have hK := hKx.1
  subst hsz
  have hD := hD0.self (sz := s.heap.size)
  generalize hAe : va_A [(oB, .inr (0, [.ref gN, .ref gD, .ref gC, .int rc, .ref gS, .ref gL, .ref gR, .int cc_, .ref gK, .ref gW, .int sc])), (gN, .inl (cJ, 12, .inr (.inl bn))), (gD, .inl (cJ, 12, .inr (.inl bd))), (gC, .inl (cI, 12, .inl bc)), (gS, .inl (cI, 30, .inl bs)), (gL, .inl (cI, 30, .inl bl)), (gR, .inl (cI, 30, .inl br)), (gK, .inl (cI, 120, .inl bk)), (gW, .inl (cJ, 120, .inr (.inl bw)))] s.heap.size = A at hD ⊢
  have hA : ∀ q : Nat, s.heap.size ≤ q → A q := fun q h => by rw [← hAe]; exact Or.inr h
  have hS : va_S A s.heap s.heap [] := va_S.rf
  have hl := lv_entry ([.ref oB]) (n := 1) (Nat.le_of_ble_eq_true rfl)
  rw [lg_entry_eq]
  generalize (lg_sl ([.ref oB]) ++ List.replicate (1 - (lg_sl ([.ref oB])).length) Slot.unset).toArray = ls at hl ⊢
  have hl : lv_has ls 1 [(0, .ref oB)] := hl
  have hP : va_P (dC, dI) vwCl [(oB, .inr (0, [.ref gN, .ref gD, .ref gC, .int rc, .ref gS, .ref gL, .ref gR, .int cc_, .ref gK, .ref gW, .int sc])), (gN, .inl (cJ, 12, .inr (.inl bn))), (gD, .inl (cJ, 12, .inr (.inl bd))), (gC, .inl (cI, 12, .inl bc)), (gS, .inl (cI, 30, .inl bs)), (gL, .inl (cI, 30, .inl bl)), (gR, .inl (cI, 30, .inl br)), (gK, .inl (cI, 120, .inl bk)), (gW, .inl (cJ, 120, .inr (.inl bw)))] s.heap := hP
  have hF : f_Book_empty = (0, 0, 0) := rfl
  refine lv_aload_n hx hb d_Book_empty_0 rfl (lv_at hl 0 rfl) ?_
  refine lv_iconst (v := 0) hx hb d_Book_empty_1 (by decide) ?_
  refine va_put (D := (dC, dI)) (ci := 0) (v := .int 0) (ty := .int) (C := "PermitRules$Book") (T := T_Book) (N := 11) hx hb htb in_Book ty_Book to_Book nm_Book hown hK hP hD hS 0 rfl rfl 3 (by decide) (htb _ mb_151) (fun _ h9 => h9) rfl (by decide +kernel) rfl rfl (Nat.le_of_ble_eq_true rfl) d_Book_empty_2 (fun H locs hP hD hS => ?_)
  have hP : va_P (dC, dI) vwCl [(oB, .inr (0, [.ref gN, .ref gD, .ref gC, .int 0, .ref gS, .ref gL, .ref gR, .int cc_, .ref gK, .ref gW, .int sc])), (gN, .inl (cJ, 12, .inr (.inl bn))), (gD, .inl (cJ, 12, .inr (.inl bd))), (gC, .inl (cI, 12, .inl bc)), (gS, .inl (cI, 30, .inl bs)), (gL, .inl (cI, 30, .inl bl)), (gR, .inl (cI, 30, .inl br)), (gK, .inl (cI, 120, .inl bk)), (gW, .inl (cJ, 120, .inr (.inl bw)))] H := hP
  have hD : va_D A [(oB, .inr (0, [.ref gN, .ref gD, .ref gC, .int 0, .ref gS, .ref gL, .ref gR, .int cc_, .ref gK, .ref gW, .int sc])), (gN, .inl (cJ, 12, .inr (.inl bn))), (gD, .inl (cJ, 12, .inr (.inl bd))), (gC, .inl (cI, 12, .inl bc)), (gS, .inl (cI, 30, .inl bs)), (gL, .inl (cI, 30, .inl bl)), (gR, .inl (cI, 30, .inl br)), (gK, .inl (cI, 120, .inl bk)), (gW, .inl (cJ, 120, .inr (.inl bw)))] := hD
  refine lv_aload_n hx hb d_Book_empty_5 rfl (lv_at hl 0 rfl) ?_
  refine lv_iconst (v := 0) hx hb d_Book_empty_6 (by decide) ?_
  refine va_put (D := (dC, dI)) (ci := 0) (v := .int 0) (ty := .int) (C := "PermitRules$Book") (T := T_Book) (N := 11) hx hb htb in_Book ty_Book to_Book nm_Book hown hK hP hD hS 0 rfl rfl 7 (by decide) (htb _ mb_156) (fun _ h9 => h9) rfl (by decide +kernel) rfl rfl (Nat.le_of_ble_eq_true rfl) d_Book_empty_7 (fun H locs hP hD hS => ?_)
  have hP : va_P (dC, dI) vwCl [(oB, .inr (0, [.ref gN, .ref gD, .ref gC, .int 0, .ref gS, .ref gL, .ref gR, .int 0, .ref gK, .ref gW, .int sc])), (gN, .inl (cJ, 12, .inr (.inl bn))), (gD, .inl (cJ, 12, .inr (.inl bd))), (gC, .inl (cI, 12, .inl bc)), (gS, .inl (cI, 30, .inl bs)), (gL, .inl (cI, 30, .inl bl)), (gR, .inl (cI, 30, .inl br)), (gK, .inl (cI, 120, .inl bk)), (gW, .inl (cJ, 120, .inr (.inl bw)))] H := hP
  have hD : va_D A [(oB, .inr (0, [.ref gN, .ref gD, .ref gC, .int 0, .ref gS, .ref gL, .ref gR, .int 0, .ref gK, .ref gW, .int sc])), (gN, .inl (cJ, 12, .inr (.inl bn))), (gD, .inl (cJ, 12, .inr (.inl bd))), (gC, .inl (cI, 12, .inl bc)), (gS, .inl (cI, 30, .inl bs)), (gL, .inl (cI, 30, .inl bl)), (gR, .inl (cI, 30, .inl br)), (gK, .inl (cI, 120, .inl bk)), (gW, .inl (cJ, 120, .inr (.inl bw)))] := hD
  refine lv_aload_n hx hb d_Book_empty_10 rfl (lv_at hl 0 rfl) ?_
  refine lv_iconst (v := 0) hx hb d_Book_empty_11 (by decide) ?_
  refine va_put (D := (dC, dI)) (ci := 0) (v := .int 0) (ty := .int) (C := "PermitRules$Book") (T := T_Book) (N := 11) hx hb htb in_Book ty_Book to_Book nm_Book hown hK hP hD hS 0 rfl rfl 10 (by decide) (htb _ mb_160) (fun _ h9 => h9) rfl (by decide +kernel) rfl rfl (Nat.le_of_ble_eq_true rfl) d_Book_empty_12 (fun H locs hP hD hS => ?_)
  have hP : va_P (dC, dI) vwCl [(oB, .inr (0, [.ref gN, .ref gD, .ref gC, .int 0, .ref gS, .ref gL, .ref gR, .int 0, .ref gK, .ref gW, .int 0])), (gN, .inl (cJ, 12, .inr (.inl bn))), (gD, .inl (cJ, 12, .inr (.inl bd))), (gC, .inl (cI, 12, .inl bc)), (gS, .inl (cI, 30, .inl bs)), (gL, .inl (cI, 30, .inl bl)), (gR, .inl (cI, 30, .inl br)), (gK, .inl (cI, 120, .inl bk)), (gW, .inl (cJ, 120, .inr (.inl bw)))] H := hP
  have hD : va_D A [(oB, .inr (0, [.ref gN, .ref gD, .ref gC, .int 0, .ref gS, .ref gL, .ref gR, .int 0, .ref gK, .ref gW, .int 0])), (gN, .inl (cJ, 12, .inr (.inl bn))), (gD, .inl (cJ, 12, .inr (.inl bd))), (gC, .inl (cI, 12, .inl bc)), (gS, .inl (cI, 30, .inl bs)), (gL, .inl (cI, 30, .inl bl)), (gR, .inl (cI, 30, .inl br)), (gK, .inl (cI, 120, .inl bk)), (gW, .inl (cJ, 120, .inr (.inl bw)))] := hD
  have hP9 := hP.sub (ws' := [(oB, .inr (0, [.ref gN, .ref gD, .ref gC, .int 0, .ref gS, .ref gL, .ref gR, .int 0, .ref gK, .ref gW, .int 0])), (gN, .inl (cJ, 12, .inr (.inl bn))), (gD, .inl (cJ, 12, .inr (.inl bd))), (gC, .inl (cI, 12, .inl bc)), (gS, .inl (cI, 30, .inl bs)), (gL, .inl (cI, 30, .inl bl)), (gR, .inl (cI, 30, .inl br)), (gK, .inl (cI, 120, .inl bk)), (gW, .inl (cJ, 120, .inr (.inl bw)))]) [0, 1, 2, 3, 4, 5, 6, 7, 8] rfl
  have hD9 := hD.sub (ws' := [(oB, .inr (0, [.ref gN, .ref gD, .ref gC, .int 0, .ref gS, .ref gL, .ref gR, .int 0, .ref gK, .ref gW, .int 0])), (gN, .inl (cJ, 12, .inr (.inl bn))), (gD, .inl (cJ, 12, .inr (.inl bd))), (gC, .inl (cI, 12, .inl bc)), (gS, .inl (cI, 30, .inl bs)), (gL, .inl (cI, 30, .inl bl)), (gR, .inl (cI, 30, .inl br)), (gK, .inl (cI, 120, .inl bk)), (gW, .inl (cJ, 120, .inr (.inl bw)))]) [0, 1, 2, 3, 4, 5, 6, 7, 8] (by decide) rfl
  exact W.vret hx hb hr (fun t ht hW => ⟨⟨(0, 0, 0), rfl, by rw [hF], by rw [ht]; exact hP9, hD9⟩, hS.F ht⟩) hS.2.2 d_Book_empty_15
def f_Book_find_L2 (nm : Int64) (rc : Int32) (bn : (Nat → Int64)) : Nat → Int32 → Int32
  | 0, _ => 0
  | n + 1, i => (if rc ≤ i then (-1) else (if 12 ≤ i then (-1) else (if (lg_cmp (bn i.toNatClampNeg) nm) = 0 then i else (f_Book_find_L2 nm rc bn n (i + 1)))))
theorem f_Book_find_L2_s (nm : Int64) (rc : Int32) (bn : (Nat → Int64)) (n : Nat) (i : Int32) : f_Book_find_L2 nm rc bn (n + 1) i = (if rc ≤ i then (-1) else (if 12 ≤ i then (-1) else (if (lg_cmp (bn i.toNatClampNeg) nm) = 0 then i else (f_Book_find_L2 nm rc bn n (i + 1))))) := rfl
def f_Book_find (nm : Int64) (rc : Int32) (bn : (Nat → Int64)) : Int32 := (f_Book_find_L2 nm rc bn 13 0)
abbrev q_Book_find (dC : Nat → ClassId) (dI : Nat → Nat → Nat) (cB cI cJ : ClassId) (oB gN gD gC gS gL gR gK gW : Nat) (nm : Int64) (rc : Int32) (cc_ : Int32) (sc : Int32) (bn : (Nat → Int64)) (bd : (Nat → Int64)) (bc : (Nat → Int32)) (bs : (Nat → Int32)) (bl : (Nat → Int32)) (br : (Nat → Int32)) (bk : (Nat → Int32)) (bw : (Nat → Int64)) (A : Nat → Prop) : Array Value → State → Outcome → State → Prop := va_Qi (fun (r : Int32) (u : Unit) => r = f_Book_find nm rc bn) (fun u t => va_P (dC, dI) vwCl [(oB, .inr (0, [.ref gN, .ref gD, .ref gC, .int rc, .ref gS, .ref gL, .ref gR, .int cc_, .ref gK, .ref gW, .int sc])), (gN, .inl (cJ, 12, .inr (.inl bn))), (gD, .inl (cJ, 12, .inr (.inl bd))), (gC, .inl (cI, 12, .inl bc)), (gS, .inl (cI, 30, .inl bs)), (gL, .inl (cI, 30, .inl bl)), (gR, .inl (cI, 30, .inl br)), (gK, .inl (cI, 120, .inl bk)), (gW, .inl (cJ, 120, .inr (.inl bw)))] t.heap ∧ va_D A [(oB, .inr (0, [.ref gN, .ref gD, .ref gC, .int rc, .ref gS, .ref gL, .ref gR, .int cc_, .ref gK, .ref gW, .int sc])), (gN, .inl (cJ, 12, .inr (.inl bn))), (gD, .inl (cJ, 12, .inr (.inl bd))), (gC, .inl (cI, 12, .inl bc)), (gS, .inl (cI, 30, .inl bs)), (gL, .inl (cI, 30, .inl bl)), (gR, .inl (cI, 30, .inl br)), (gK, .inl (cI, 120, .inl bk)), (gW, .inl (cJ, 120, .inr (.inl bw)))]) A
set_option maxHeartbeats 4000000 in
set_option maxRecDepth 100000 in
theorem c_Book_find (l : Launch) (dC : Nat → ClassId) (dI : Nat → Nat → Nat) (cB cI cJ : ClassId) (oB gN gD gC gS gL gR gK gW : Nat) (sz : Nat) (nm : Int64) (rc : Int32) (cc_ : Int32) (sc : Int32) (bn : (Nat → Int64)) (bd : (Nat → Int64)) (bc : (Nat → Int32)) (bs : (Nat → Int32)) (bl : (Nat → Int32)) (br : (Nat → Int32)) (bk : (Nat → Int32)) (bw : (Nat → Int64)) : Met l y_Book_find (cw_Book_find :: bgw) { frames := 0, cells := 0, slots := 0, locals := 0 } (va_Pc [.ref oB, .long nm] (kb_B dC dI cB cI cJ [(oB, .inr (0, [.ref gN, .ref gD, .ref gC, .int rc, .ref gS, .ref gL, .ref gR, .int cc_, .ref gK, .ref gW, .int sc])), (gN, .inl (cJ, 12, .inr (.inl bn))), (gD, .inl (cJ, 12, .inr (.inl bd))), (gC, .inl (cI, 12, .inl bc)), (gS, .inl (cI, 30, .inl bs)), (gL, .inl (cI, 30, .inl bl)), (gR, .inl (cI, 30, .inl br)), (gK, .inl (cI, 120, .inl bk)), (gW, .inl (cJ, 120, .inr (.inl bw)))] sz)) (q_Book_find dC dI cB cI cJ oB gN gD gC gS gL gR gK gW nm rc cc_ sc bn bd bc bs bl br bk bw (va_A [(oB, .inr (0, [.ref gN, .ref gD, .ref gC, .int rc, .ref gS, .ref gL, .ref gR, .int cc_, .ref gK, .ref gW, .int sc])), (gN, .inl (cJ, 12, .inr (.inl bn))), (gD, .inl (cJ, 12, .inr (.inl bd))), (gC, .inl (cI, 12, .inl bc)), (gS, .inl (cI, 30, .inl bs)), (gL, .inl (cI, 30, .inl bl)), (gR, .inl (cI, 30, .inl br)), (gK, .inl (cI, 120, .inl bk)), (gW, .inl (cJ, 120, .inr (.inl bw)))] sz)) 0 0 (va_A [(oB, .inr (0, [.ref gN, .ref gD, .ref gC, .int rc, .ref gS, .ref gL, .ref gR, .int cc_, .ref gK, .ref gW, .int sc])), (gN, .inl (cJ, 12, .inr (.inl bn))), (gD, .inl (cJ, 12, .inr (.inl bd))), (gC, .inl (cI, 12, .inl bc)), (gS, .inl (cI, 30, .inl bs)), (gL, .inl (cI, 30, .inl bl)), (gR, .inl (cI, 30, .inl br)), (gK, .inl (cI, 120, .inl bk)), (gW, .inl (cJ, 120, .inr (.inl bw)))] sz) := by
  refine Met.ofW (cc := prog_2_method_3_code) (maxL := 4) (ret := (some .int)) (by decide) rfl ?_
  intro p e s m args below meth c s₁ B hml hv
  obtain ⟨rfl, hsz, hP, hKx, hD0⟩ := hv
  have hx := B.exec
  have hb := B.bytes
  have hr := B.returns
  have hts := atoms_spec (ws := (cw_Book_find :: bgw)) B.pre
  have hown : s.vm.findClass "PermitRules$Book" = some m.cls := findClass_of_methodNamed B.named
  have hlocks := B.notSynchronized
  have htb := fun (w : Cond) (h : w ∈ bgw) => hts w (List.mem_cons_of_mem _ h)
  have hK := hKx.1
  subst hsz
  have hD := hD0.self (sz := s.heap.size)
  generalize hAe : va_A [(oB, .inr (0, [.ref gN, .ref gD, .ref gC, .int rc, .ref gS, .ref gL, .ref gR, .int cc_, .ref gK, .ref gW, .int sc])), (gN, .inl (cJ, 12, .inr (.inl bn))), (gD, .inl (cJ, 12, .inr (.inl bd))), (gC, .inl (cI, 12, .inl bc)), (gS, .inl (cI, 30, .inl bs)), (gL, .inl (cI, 30, .inl bl)), (gR, .inl (cI, 30, .inl br)), (gK, .inl (cI, 120, .inl bk)), (gW, .inl (cJ, 120, .inr (.inl bw)))] s.heap.size = A at hD ⊢
  have hA : ∀ q : Nat, s.heap.size ≤ q → A q := fun q h => by rw [← hAe]; exact Or.inr h
  have hS : va_S A s.heap s.heap [] := va_S.rf
  have hl := lv_entry ([.ref oB, .long nm]) (n := 4) (Nat.le_of_ble_eq_true rfl)
  rw [lg_entry_eq]
  generalize (lg_sl ([.ref oB, .long nm]) ++ List.replicate (4 - (lg_sl ([.ref oB, .long nm])).length) Slot.unset).toArray = ls at hl ⊢
  have hl : lv_has ls 4 [(0, .ref oB), (1, .long nm)] := hl
  have hP : va_P (dC, dI) vwCl [(oB, .inr (0, [.ref gN, .ref gD, .ref gC, .int rc, .ref gS, .ref gL, .ref gR, .int cc_, .ref gK, .ref gW, .int sc])), (gN, .inl (cJ, 12, .inr (.inl bn))), (gD, .inl (cJ, 12, .inr (.inl bd))), (gC, .inl (cI, 12, .inl bc)), (gS, .inl (cI, 30, .inl bs)), (gL, .inl (cI, 30, .inl bl)), (gR, .inl (cI, 30, .inl br)), (gK, .inl (cI, 120, .inl bk)), (gW, .inl (cJ, 120, .inr (.inl bw)))] s.heap := hP
  have hF : f_Book_find nm rc bn = (f_Book_find_L2 nm rc bn 13 0) := rfl
  have lp2 : ∀ (n : Nat) (i : Int32), ¬ i < 0 → ((12 : Int) - i.toInt).toNat < n → f_Book_find nm rc bn = f_Book_find_L2 nm rc bn n i → ∀ (H : Heap) (locs : List Loc) (ls : Array Slot), va_P (dC, dI) vwCl [(oB, .inr (0, [.ref gN, .ref gD, .ref gC, .int rc, .ref gS, .ref gL, .ref gR, .int cc_, .ref gK, .ref gW, .int sc])), (gN, .inl (cJ, 12, .inr (.inl bn))), (gD, .inl (cJ, 12, .inr (.inl bd))), (gC, .inl (cI, 12, .inl bc)), (gS, .inl (cI, 30, .inl bs)), (gL, .inl (cI, 30, .inl bl)), (gR, .inl (cI, 30, .inl br)), (gK, .inl (cI, 120, .inl bk)), (gW, .inl (cJ, 120, .inr (.inl bw)))] H → va_D A [(oB, .inr (0, [.ref gN, .ref gD, .ref gC, .int rc, .ref gS, .ref gL, .ref gR, .int cc_, .ref gK, .ref gW, .int sc])), (gN, .inl (cJ, 12, .inr (.inl bn))), (gD, .inl (cJ, 12, .inr (.inl bd))), (gC, .inl (cI, 12, .inl bc)), (gS, .inl (cI, 30, .inl bs)), (gL, .inl (cI, 30, .inl bl)), (gR, .inl (cI, 30, .inl br)), (gK, .inl (cI, 120, .inl bk)), (gW, .inl (cJ, 120, .inr (.inl bw)))] → va_S A s.heap H locs → lv_has ls 4 [(3, .int i), (0, .ref oB), (1, .long nm)] → W p l e (headSpec (cw_Book_find :: bgw) { frames := 0, cells := 0, slots := 0, locals := 0 }).room s m ([.ref oB, .long nm] : List Value).toArray below meth c H locs 0 0 (MQ below (q_Book_find dC dI cB cI cJ oB gN gD gC gS gL gR gK gW nm rc cc_ sc bn bd bc bs bl br bk bw A) ([.ref oB, .long nm] : List Value).toArray s 0 0 A) (F0 m 2 ls []) := by
    intro n
    induction n with
    | zero => intro i i0 hn; exact absurd hn (Nat.not_lt_zero _)
    | succ n ih =>
      intro i i0 hn hF H locs ls hP hD hS hl
      have hF := hF.trans (f_Book_find_L2_s nm rc bn n i)
      refine lv_iload_n hx hb d_Book_find_2 rfl (lv_at hl 0 rfl) ?_
      refine lv_aload_n hx hb d_Book_find_3 rfl (lv_at hl 1 rfl) ?_
      refine va_get (D := (dC, dI)) (ci := 0) (v := .int rc) (C := "PermitRules$Book") (T := T_Book) (N := 11) hx hb htb in_Book hown hK hP 0 rfl rfl 3 (by decide) (htb _ mb_151) (fun _ h9 => h9) rfl d_Book_find_4 ?_
      refine lv_icmp_ge (tgt := 38) hx hb d_Book_find_7 (by decide) (fun c_1 => ?_) (fun c_1 => ?_)
      · have hF := hF.trans (if_pos c_1)
        refine lv_iconst (v := (-1)) hx hb d_Book_find_38 (by decide) ?_
        have hP9 := hP.sub (ws' := [(oB, .inr (0, [.ref gN, .ref gD, .ref gC, .int rc, .ref gS, .ref gL, .ref gR, .int cc_, .ref gK, .ref gW, .int sc])), (gN, .inl (cJ, 12, .inr (.inl bn))), (gD, .inl (cJ, 12, .inr (.inl bd))), (gC, .inl (cI, 12, .inl bc)), (gS, .inl (cI, 30, .inl bs)), (gL, .inl (cI, 30, .inl bl)), (gR, .inl (cI, 30, .inl br)), (gK, .inl (cI, 120, .inl bk)), (gW, .inl (cJ, 120, .inr (.inl bw)))]) [0, 1, 2, 3, 4, 5, 6, 7, 8] rfl
        have hD9 := hD.sub (ws' := [(oB, .inr (0, [.ref gN, .ref gD, .ref gC, .int rc, .ref gS, .ref gL, .ref gR, .int cc_, .ref gK, .ref gW, .int sc])), (gN, .inl (cJ, 12, .inr (.inl bn))), (gD, .inl (cJ, 12, .inr (.inl bd))), (gC, .inl (cI, 12, .inl bc)), (gS, .inl (cI, 30, .inl bs)), (gL, .inl (cI, 30, .inl bl)), (gR, .inl (cI, 30, .inl br)), (gK, .inl (cI, 120, .inl bk)), (gW, .inl (cJ, 120, .inr (.inl bw)))]) [0, 1, 2, 3, 4, 5, 6, 7, 8] (by decide) rfl
        exact W.iret (v := ((-1) : Int32)) hx hb hr (fun t ht hW => ⟨⟨((-1) : Int32), (), rfl, by rw [hF], by rw [ht]; exact hP9, hD9⟩, hS.F ht⟩) hS.2.2 d_Book_find_39
      · have hF := hF.trans (if_neg c_1)
        refine lv_iload_n hx hb d_Book_find_10 rfl (lv_at hl 0 rfl) ?_
        refine lv_aload_n hx hb d_Book_find_11 rfl (lv_at hl 1 rfl) ?_
        refine va_get (D := (dC, dI)) (ci := 0) (v := .ref gN) (C := "PermitRules$Book") (T := T_Book) (N := 11) hx hb htb in_Book hown hK hP 0 rfl rfl 0 (by decide) (htb _ mb_148) (fun _ h9 => h9) rfl d_Book_find_12 ?_
        refine va_alen (v := 12) hx hb hK hP 1 2 rfl rfl (by rfl) d_Book_find_15 ?_
        refine lv_icmp_ge (tgt := 38) hx hb d_Book_find_16 (by decide) (fun c_2 => ?_) (fun c_2 => ?_)
        · have hF := hF.trans (if_pos c_2)
          refine lv_iconst (v := (-1)) hx hb d_Book_find_38 (by decide) ?_
          have hP9 := hP.sub (ws' := [(oB, .inr (0, [.ref gN, .ref gD, .ref gC, .int rc, .ref gS, .ref gL, .ref gR, .int cc_, .ref gK, .ref gW, .int sc])), (gN, .inl (cJ, 12, .inr (.inl bn))), (gD, .inl (cJ, 12, .inr (.inl bd))), (gC, .inl (cI, 12, .inl bc)), (gS, .inl (cI, 30, .inl bs)), (gL, .inl (cI, 30, .inl bl)), (gR, .inl (cI, 30, .inl br)), (gK, .inl (cI, 120, .inl bk)), (gW, .inl (cJ, 120, .inr (.inl bw)))]) [0, 1, 2, 3, 4, 5, 6, 7, 8] rfl
          have hD9 := hD.sub (ws' := [(oB, .inr (0, [.ref gN, .ref gD, .ref gC, .int rc, .ref gS, .ref gL, .ref gR, .int cc_, .ref gK, .ref gW, .int sc])), (gN, .inl (cJ, 12, .inr (.inl bn))), (gD, .inl (cJ, 12, .inr (.inl bd))), (gC, .inl (cI, 12, .inl bc)), (gS, .inl (cI, 30, .inl bs)), (gL, .inl (cI, 30, .inl bl)), (gR, .inl (cI, 30, .inl br)), (gK, .inl (cI, 120, .inl bk)), (gW, .inl (cJ, 120, .inr (.inl bw)))]) [0, 1, 2, 3, 4, 5, 6, 7, 8] (by decide) rfl
          exact W.iret (v := ((-1) : Int32)) hx hb hr (fun t ht hW => ⟨⟨((-1) : Int32), (), rfl, by rw [hF], by rw [ht]; exact hP9, hD9⟩, hS.F ht⟩) hS.2.2 d_Book_find_39
        · have hF := hF.trans (if_neg c_2)
          refine lv_aload_n hx hb d_Book_find_19 rfl (lv_at hl 1 rfl) ?_
          refine va_get (D := (dC, dI)) (ci := 0) (v := .ref gN) (C := "PermitRules$Book") (T := T_Book) (N := 11) hx hb htb in_Book hown hK hP 0 rfl rfl 0 (by decide) (htb _ mb_148) (fun _ h9 => h9) rfl d_Book_find_20 ?_
          refine lv_iload_n hx hb d_Book_find_23 rfl (lv_at hl 0 rfl) ?_
          refine va_lald hx hb hK hP 1 2 rfl rfl (oi_in (N := 12) (by decide) i0 c_2) d_Book_find_24 ?_
          refine lv_lload_n hx hb d_Book_find_25 rfl (lv_at hl 2 rfl) ?_
          refine W.lcmp hx hb d_Book_find_26 ?_
          refine lv_if_ne (tgt := 32) hx hb d_Book_find_27 (by decide) (fun c_3 => ?_) (fun c_3 => ?_)
          · have hF := hF.trans (if_neg c_3)
            refine lv_iinc (v := i + 1) (lv' := [(3, .int (i + 1)), (0, .ref oB), (1, .long nm)]) hx hb d_Book_find_32 hl (k := 0) rfl (by first | rfl | decide) (by decide) rfl (fun ls hl => ?_)
            refine lv_goto (tgt := 2) hx hb d_Book_find_35 (by decide) ?_
            exact ih (i + 1) (oi_s i0 c_2 (by decide) hn).1 (oi_s i0 c_2 (by decide) hn).2 hF _ _ _ (hP.sub [0, 1, 2, 3, 4, 5, 6, 7, 8] rfl) (hD.sub [0, 1, 2, 3, 4, 5, 6, 7, 8] (by decide) rfl) hS (lv_sub hl [0, 1, 2] rfl)
          · have hF := hF.trans (if_pos c_3)
            refine lv_iload_n hx hb d_Book_find_30 rfl (lv_at hl 0 rfl) ?_
            have hP9 := hP.sub (ws' := [(oB, .inr (0, [.ref gN, .ref gD, .ref gC, .int rc, .ref gS, .ref gL, .ref gR, .int cc_, .ref gK, .ref gW, .int sc])), (gN, .inl (cJ, 12, .inr (.inl bn))), (gD, .inl (cJ, 12, .inr (.inl bd))), (gC, .inl (cI, 12, .inl bc)), (gS, .inl (cI, 30, .inl bs)), (gL, .inl (cI, 30, .inl bl)), (gR, .inl (cI, 30, .inl br)), (gK, .inl (cI, 120, .inl bk)), (gW, .inl (cJ, 120, .inr (.inl bw)))]) [0, 1, 2, 3, 4, 5, 6, 7, 8] rfl
            have hD9 := hD.sub (ws' := [(oB, .inr (0, [.ref gN, .ref gD, .ref gC, .int rc, .ref gS, .ref gL, .ref gR, .int cc_, .ref gK, .ref gW, .int sc])), (gN, .inl (cJ, 12, .inr (.inl bn))), (gD, .inl (cJ, 12, .inr (.inl bd))), (gC, .inl (cI, 12, .inl bc)), (gS, .inl (cI, 30, .inl bs)), (gL, .inl (cI, 30, .inl bl)), (gR, .inl (cI, 30, .inl br)), (gK, .inl (cI, 120, .inl bk)), (gW, .inl (cJ, 120, .inr (.inl bw)))]) [0, 1, 2, 3, 4, 5, 6, 7, 8] (by decide) rfl
            exact W.iret (v := i) hx hb hr (fun t ht hW => ⟨⟨i, (), rfl, by rw [hF], by rw [ht]; exact hP9, hD9⟩, hS.F ht⟩) hS.2.2 d_Book_find_31
  refine lv_iconst (v := 0) hx hb d_Book_find_0 (by decide) ?_
  refine lv_istore_n (lv' := [(3, .int 0), (0, .ref oB), (1, .long nm)]) hx hb d_Book_find_1 rfl hl (by decide) rfl (fun ls hl => ?_)
  exact lp2 13 0 (by decide) (by decide) hF _ _ _ (hP.sub [0, 1, 2, 3, 4, 5, 6, 7, 8] rfl) (hD.sub [0, 1, 2, 3, 4, 5, 6, 7, 8] (by decide) rfl) hS (lv_sub hl [0, 1, 2] rfl)
def f_Book_hasRoomFor (nm : Int64) (rc : Int32) (bn : (Nat → Int64)) : Int32 := (if 12 ≤ rc then 0 else (lt_ (f_Book_find nm rc bn) fun z_2 => (if z_2 = (-1) then 1 else 0)))
abbrev q_Book_hasRoomFor (dC : Nat → ClassId) (dI : Nat → Nat → Nat) (cB cI cJ : ClassId) (oB gN gD gC gS gL gR gK gW : Nat) (nm : Int64) (rc : Int32) (cc_ : Int32) (sc : Int32) (bn : (Nat → Int64)) (bd : (Nat → Int64)) (bc : (Nat → Int32)) (bs : (Nat → Int32)) (bl : (Nat → Int32)) (br : (Nat → Int32)) (bk : (Nat → Int32)) (bw : (Nat → Int64)) (A : Nat → Prop) : Array Value → State → Outcome → State → Prop := va_Qi (fun (r : Int32) (u : Unit) => r = f_Book_hasRoomFor nm rc bn) (fun u t => va_P (dC, dI) vwCl [(oB, .inr (0, [.ref gN, .ref gD, .ref gC, .int rc, .ref gS, .ref gL, .ref gR, .int cc_, .ref gK, .ref gW, .int sc])), (gN, .inl (cJ, 12, .inr (.inl bn))), (gD, .inl (cJ, 12, .inr (.inl bd))), (gC, .inl (cI, 12, .inl bc)), (gS, .inl (cI, 30, .inl bs)), (gL, .inl (cI, 30, .inl bl)), (gR, .inl (cI, 30, .inl br)), (gK, .inl (cI, 120, .inl bk)), (gW, .inl (cJ, 120, .inr (.inl bw)))] t.heap ∧ va_D A [(oB, .inr (0, [.ref gN, .ref gD, .ref gC, .int rc, .ref gS, .ref gL, .ref gR, .int cc_, .ref gK, .ref gW, .int sc])), (gN, .inl (cJ, 12, .inr (.inl bn))), (gD, .inl (cJ, 12, .inr (.inl bd))), (gC, .inl (cI, 12, .inl bc)), (gS, .inl (cI, 30, .inl bs)), (gL, .inl (cI, 30, .inl bl)), (gR, .inl (cI, 30, .inl br)), (gK, .inl (cI, 120, .inl bk)), (gW, .inl (cJ, 120, .inr (.inl bw)))]) A
set_option maxHeartbeats 4000000 in
set_option maxRecDepth 100000 in
theorem c_Book_hasRoomFor (l : Launch) (dC : Nat → ClassId) (dI : Nat → Nat → Nat) (cB cI cJ : ClassId) (oB gN gD gC gS gL gR gK gW : Nat) (sz : Nat) (nm : Int64) (rc : Int32) (cc_ : Int32) (sc : Int32) (bn : (Nat → Int64)) (bd : (Nat → Int64)) (bc : (Nat → Int32)) (bs : (Nat → Int32)) (bl : (Nat → Int32)) (br : (Nat → Int32)) (bk : (Nat → Int32)) (bw : (Nat → Int64)) : Met l y_Book_hasRoomFor (cw_Book_hasRoomFor :: bgw) { frames := 1, cells := 0, slots := 0, locals := 23 } (va_Pc [.ref oB, .long nm] (kb_B dC dI cB cI cJ [(oB, .inr (0, [.ref gN, .ref gD, .ref gC, .int rc, .ref gS, .ref gL, .ref gR, .int cc_, .ref gK, .ref gW, .int sc])), (gN, .inl (cJ, 12, .inr (.inl bn))), (gD, .inl (cJ, 12, .inr (.inl bd))), (gC, .inl (cI, 12, .inl bc)), (gS, .inl (cI, 30, .inl bs)), (gL, .inl (cI, 30, .inl bl)), (gR, .inl (cI, 30, .inl br)), (gK, .inl (cI, 120, .inl bk)), (gW, .inl (cJ, 120, .inr (.inl bw)))] sz)) (q_Book_hasRoomFor dC dI cB cI cJ oB gN gD gC gS gL gR gK gW nm rc cc_ sc bn bd bc bs bl br bk bw (va_A [(oB, .inr (0, [.ref gN, .ref gD, .ref gC, .int rc, .ref gS, .ref gL, .ref gR, .int cc_, .ref gK, .ref gW, .int sc])), (gN, .inl (cJ, 12, .inr (.inl bn))), (gD, .inl (cJ, 12, .inr (.inl bd))), (gC, .inl (cI, 12, .inl bc)), (gS, .inl (cI, 30, .inl bs)), (gL, .inl (cI, 30, .inl bl)), (gR, .inl (cI, 30, .inl br)), (gK, .inl (cI, 120, .inl bk)), (gW, .inl (cJ, 120, .inr (.inl bw)))] sz)) 0 0 (va_A [(oB, .inr (0, [.ref gN, .ref gD, .ref gC, .int rc, .ref gS, .ref gL, .ref gR, .int cc_, .ref gK, .ref gW, .int sc])), (gN, .inl (cJ, 12, .inr (.inl bn))), (gD, .inl (cJ, 12, .inr (.inl bd))), (gC, .inl (cI, 12, .inl bc)), (gS, .inl (cI, 30, .inl bs)), (gL, .inl (cI, 30, .inl bl)), (gR, .inl (cI, 30, .inl br)), (gK, .inl (cI, 120, .inl bk)), (gW, .inl (cJ, 120, .inr (.inl bw)))] sz) := by
  refine Met.ofW (cc := prog_2_method_4_code) (maxL := 3) (ret := (some .boolean)) (by decide) rfl ?_
  intro p e s m args below meth c s₁ B hml hv
  obtain ⟨rfl, hsz, hP, hKx, hD0⟩ := hv
  have hx := B.exec
  have hb := B.bytes
  have hr := B.returns
  have hts := atoms_spec (ws := (cw_Book_hasRoomFor :: bgw)) B.pre
  have hown : s.vm.findClass "PermitRules$Book" = some m.cls := findClass_of_methodNamed B.named
  have hlocks := B.notSynchronized
  have htb := fun (w : Cond) (h : w ∈ bgw) => hts w (List.mem_cons_of_mem _ h)
  have hK := hKx.1
  subst hsz
  have hD := hD0.self (sz := s.heap.size)
  generalize hAe : va_A [(oB, .inr (0, [.ref gN, .ref gD, .ref gC, .int rc, .ref gS, .ref gL, .ref gR, .int cc_, .ref gK, .ref gW, .int sc])), (gN, .inl (cJ, 12, .inr (.inl bn))), (gD, .inl (cJ, 12, .inr (.inl bd))), (gC, .inl (cI, 12, .inl bc)), (gS, .inl (cI, 30, .inl bs)), (gL, .inl (cI, 30, .inl bl)), (gR, .inl (cI, 30, .inl br)), (gK, .inl (cI, 120, .inl bk)), (gW, .inl (cJ, 120, .inr (.inl bw)))] s.heap.size = A at hD ⊢
  have hA : ∀ q : Nat, s.heap.size ≤ q → A q := fun q h => by rw [← hAe]; exact Or.inr h
  have hS : va_S A s.heap s.heap [] := va_S.rf
  have hl := lv_entry ([.ref oB, .long nm]) (n := 3) (Nat.le_of_ble_eq_true rfl)
  rw [lg_entry_eq]
  generalize (lg_sl ([.ref oB, .long nm]) ++ List.replicate (3 - (lg_sl ([.ref oB, .long nm])).length) Slot.unset).toArray = ls at hl ⊢
  have hl : lv_has ls 3 [(0, .ref oB), (1, .long nm)] := hl
  have hP : va_P (dC, dI) vwCl [(oB, .inr (0, [.ref gN, .ref gD, .ref gC, .int rc, .ref gS, .ref gL, .ref gR, .int cc_, .ref gK, .ref gW, .int sc])), (gN, .inl (cJ, 12, .inr (.inl bn))), (gD, .inl (cJ, 12, .inr (.inl bd))), (gC, .inl (cI, 12, .inl bc)), (gS, .inl (cI, 30, .inl bs)), (gL, .inl (cI, 30, .inl bl)), (gR, .inl (cI, 30, .inl br)), (gK, .inl (cI, 120, .inl bk)), (gW, .inl (cJ, 120, .inr (.inl bw)))] s.heap := hP
  have hF : f_Book_hasRoomFor nm rc bn = (if 12 ≤ rc then 0 else (lt_ (f_Book_find nm rc bn) fun z_2 => (if z_2 = (-1) then 1 else 0))) := rfl
  refine lv_aload_n hx hb d_Book_hasRoomFor_0 rfl (lv_at hl 0 rfl) ?_
  refine va_get (D := (dC, dI)) (ci := 0) (v := .int rc) (C := "PermitRules$Book") (T := T_Book) (N := 11) hx hb htb in_Book hown hK hP 0 rfl rfl 3 (by decide) (htb _ mb_151) (fun _ h9 => h9) rfl d_Book_hasRoomFor_1 ?_
  refine lv_bipush (v := 12) hx hb d_Book_hasRoomFor_4 (by decide) ?_
  refine lv_icmp_ge (tgt := 22) hx hb d_Book_hasRoomFor_6 (by decide) (fun c_1 => ?_) (fun c_1 => ?_)
  · have hF := hF.trans (if_pos c_1)
    refine lv_iconst (v := 0) hx hb d_Book_hasRoomFor_22 (by decide) ?_
    have hP9 := hP.sub (ws' := [(oB, .inr (0, [.ref gN, .ref gD, .ref gC, .int rc, .ref gS, .ref gL, .ref gR, .int cc_, .ref gK, .ref gW, .int sc])), (gN, .inl (cJ, 12, .inr (.inl bn))), (gD, .inl (cJ, 12, .inr (.inl bd))), (gC, .inl (cI, 12, .inl bc)), (gS, .inl (cI, 30, .inl bs)), (gL, .inl (cI, 30, .inl bl)), (gR, .inl (cI, 30, .inl br)), (gK, .inl (cI, 120, .inl bk)), (gW, .inl (cJ, 120, .inr (.inl bw)))]) [0, 1, 2, 3, 4, 5, 6, 7, 8] rfl
    have hD9 := hD.sub (ws' := [(oB, .inr (0, [.ref gN, .ref gD, .ref gC, .int rc, .ref gS, .ref gL, .ref gR, .int cc_, .ref gK, .ref gW, .int sc])), (gN, .inl (cJ, 12, .inr (.inl bn))), (gD, .inl (cJ, 12, .inr (.inl bd))), (gC, .inl (cI, 12, .inl bc)), (gS, .inl (cI, 30, .inl bs)), (gL, .inl (cI, 30, .inl bl)), (gR, .inl (cI, 30, .inl br)), (gK, .inl (cI, 120, .inl bk)), (gW, .inl (cJ, 120, .inr (.inl bw)))]) [0, 1, 2, 3, 4, 5, 6, 7, 8] (by decide) rfl
    exact W.zret (v := (0 : Int32)) hx hb hr (rfl) (fun t ht hW => ⟨⟨(0 : Int32), (), rfl, by rw [hF], by rw [ht]; exact hP9, hD9⟩, hS.F ht⟩) hS.2.2 d_Book_hasRoomFor_23
  · have hF := hF.trans (if_neg c_1)
    refine lv_aload_n hx hb d_Book_hasRoomFor_9 rfl (lv_at hl 0 rfl) ?_
    refine lv_lload_n hx hb d_Book_hasRoomFor_10 rfl (lv_at hl 1 rfl) ?_
    have hPc := hP.sub (ws' := [(oB, .inr (0, [.ref gN, .ref gD, .ref gC, .int rc, .ref gS, .ref gL, .ref gR, .int cc_, .ref gK, .ref gW, .int sc])), (gN, .inl (cJ, 12, .inr (.inl bn))), (gD, .inl (cJ, 12, .inr (.inl bd))), (gC, .inl (cI, 12, .inl bc)), (gS, .inl (cI, 30, .inl bs)), (gL, .inl (cI, 30, .inl bl)), (gR, .inl (cI, 30, .inl br)), (gK, .inl (cI, 120, .inl bk)), (gW, .inl (cJ, 120, .inr (.inl bw)))]) [0, 1, 2, 3, 4, 5, 6, 7, 8] rfl
    have hDc := hD.sub (ws' := [(oB, .inr (0, [.ref gN, .ref gD, .ref gC, .int rc, .ref gS, .ref gL, .ref gR, .int cc_, .ref gK, .ref gW, .int sc])), (gN, .inl (cJ, 12, .inr (.inl bn))), (gD, .inl (cJ, 12, .inr (.inl bd))), (gC, .inl (cI, 12, .inl bc)), (gS, .inl (cI, 30, .inl bs)), (gL, .inl (cI, 30, .inl bl)), (gR, .inl (cI, 30, .inl br)), (gK, .inl (cI, 120, .inl bk)), (gW, .inl (cJ, 120, .inr (.inl bw)))]) [0, 1, 2, 3, 4, 5, 6, 7, 8] (by decide) rfl
    have hFc := va_free (wc := [(oB, .inr (0, [.ref gN, .ref gD, .ref gC, .int rc, .ref gS, .ref gL, .ref gR, .int cc_, .ref gK, .ref gW, .int sc])), (gN, .inl (cJ, 12, .inr (.inl bn))), (gD, .inl (cJ, 12, .inr (.inl bd))), (gC, .inl (cI, 12, .inl bc)), (gS, .inl (cI, 30, .inl bs)), (gL, .inl (cI, 30, .inl bl)), (gR, .inl (cI, 30, .inl br)), (gK, .inl (cI, 120, .inl bk)), (gW, .inl (cJ, 120, .inr (.inl bw)))]) hD hS hA [0, 1, 2, 3, 4, 5, 6, 7, 8] rfl
    refine va_calli (va_runV (As := [.long nm]) (rest := []) ⟨hx, hb, hml, hown, htb⟩ (c_Book_find l dC dI cB cI cJ oB gN gD gC gS gL gR gK gW _ nm rc cc_ sc bn bd bc bs bl br bk bw ) ⟨callB_of 1 htb (gb_all mb_271) rfl rfl rfl (htb _ mb_8) (htb _ mb_268) (by decide +kernel) ⟨Nat.le_of_ble_eq_true rfl, Nat.le_of_ble_eq_true rfl⟩, htb _ mb_269, htb _ mb_270⟩ ⟨kb_blind, va_recv hK hPc (ci := 0) (q0 := 0) rfl rfl, kb_at hPc hDc hKx⟩ rfl rfl hl.1 rfl (lv_room (Nat.le_of_ble_eq_true rfl)) d_Book_hasRoomFor_11 ⟨Nat.le_of_ble_eq_true rfl, Nat.le_of_ble_eq_true rfl⟩) hS (fun q _ h => hFc q h) hFc (fun z_2 u t H1 locs ht hvm hw hB hz1 hk1 hS => ?_)
    have hz_2 := hw
    have hF := hF.trans (lt_e hz_2)
    obtain ⟨hP1, hD1⟩ := hB
    rw [ht] at hP1
    obtain ⟨hP, hD⟩ := va_join (wr := []) (w1 := [(oB, .inr (0, [.ref gN, .ref gD, .ref gC, .int rc, .ref gS, .ref gL, .ref gR, .int cc_, .ref gK, .ref gW, .int sc])), (gN, .inl (cJ, 12, .inr (.inl bn))), (gD, .inl (cJ, 12, .inr (.inl bd))), (gC, .inl (cI, 12, .inl bc)), (gS, .inl (cI, 30, .inl bs)), (gL, .inl (cI, 30, .inl bl)), (gR, .inl (cI, 30, .inl br)), (gK, .inl (cI, 120, .inl bk)), (gW, .inl (cJ, 120, .inr (.inl bw)))]) hP hD [0, 1, 2, 3, 4, 5, 6, 7, 8] [] rfl rfl (by decide) (by decide) hk1 hFc hP1 hD1
    generalize H1 = H at hP hS ⊢
    have hP : va_P (dC, dI) vwCl [(oB, .inr (0, [.ref gN, .ref gD, .ref gC, .int rc, .ref gS, .ref gL, .ref gR, .int cc_, .ref gK, .ref gW, .int sc])), (gN, .inl (cJ, 12, .inr (.inl bn))), (gD, .inl (cJ, 12, .inr (.inl bd))), (gC, .inl (cI, 12, .inl bc)), (gS, .inl (cI, 30, .inl bs)), (gL, .inl (cI, 30, .inl bl)), (gR, .inl (cI, 30, .inl br)), (gK, .inl (cI, 120, .inl bk)), (gW, .inl (cJ, 120, .inr (.inl bw)))] H := hP
    have hD : va_D A [(oB, .inr (0, [.ref gN, .ref gD, .ref gC, .int rc, .ref gS, .ref gL, .ref gR, .int cc_, .ref gK, .ref gW, .int sc])), (gN, .inl (cJ, 12, .inr (.inl bn))), (gD, .inl (cJ, 12, .inr (.inl bd))), (gC, .inl (cI, 12, .inl bc)), (gS, .inl (cI, 30, .inl bs)), (gL, .inl (cI, 30, .inl bl)), (gR, .inl (cI, 30, .inl br)), (gK, .inl (cI, 120, .inl bk)), (gW, .inl (cJ, 120, .inr (.inl bw)))] := hD
    refine lv_iconst (v := (-1)) hx hb d_Book_hasRoomFor_14 (by decide) ?_
    refine lv_icmp_ne (tgt := 22) hx hb d_Book_hasRoomFor_15 (by decide) (fun c_3 => ?_) (fun c_3 => ?_)
    · have hF := hF.trans (if_neg c_3)
      refine lv_iconst (v := 0) hx hb d_Book_hasRoomFor_22 (by decide) ?_
      have hP9 := hP.sub (ws' := [(oB, .inr (0, [.ref gN, .ref gD, .ref gC, .int rc, .ref gS, .ref gL, .ref gR, .int cc_, .ref gK, .ref gW, .int sc])), (gN, .inl (cJ, 12, .inr (.inl bn))), (gD, .inl (cJ, 12, .inr (.inl bd))), (gC, .inl (cI, 12, .inl bc)), (gS, .inl (cI, 30, .inl bs)), (gL, .inl (cI, 30, .inl bl)), (gR, .inl (cI, 30, .inl br)), (gK, .inl (cI, 120, .inl bk)), (gW, .inl (cJ, 120, .inr (.inl bw)))]) [0, 1, 2, 3, 4, 5, 6, 7, 8] rfl
      have hD9 := hD.sub (ws' := [(oB, .inr (0, [.ref gN, .ref gD, .ref gC, .int rc, .ref gS, .ref gL, .ref gR, .int cc_, .ref gK, .ref gW, .int sc])), (gN, .inl (cJ, 12, .inr (.inl bn))), (gD, .inl (cJ, 12, .inr (.inl bd))), (gC, .inl (cI, 12, .inl bc)), (gS, .inl (cI, 30, .inl bs)), (gL, .inl (cI, 30, .inl bl)), (gR, .inl (cI, 30, .inl br)), (gK, .inl (cI, 120, .inl bk)), (gW, .inl (cJ, 120, .inr (.inl bw)))]) [0, 1, 2, 3, 4, 5, 6, 7, 8] (by decide) rfl
      exact W.zret (v := (0 : Int32)) hx hb hr (rfl) (fun t ht hW => ⟨⟨(0 : Int32), (), rfl, by rw [hF], by rw [ht]; exact hP9, hD9⟩, hS.F ht⟩) hS.2.2 d_Book_hasRoomFor_23
    · have hF := hF.trans (if_pos c_3)
      refine lv_iconst (v := 1) hx hb d_Book_hasRoomFor_18 (by decide) ?_
      refine lv_goto (tgt := 23) hx hb d_Book_hasRoomFor_19 (by decide) ?_
      have hP9 := hP.sub (ws' := [(oB, .inr (0, [.ref gN, .ref gD, .ref gC, .int rc, .ref gS, .ref gL, .ref gR, .int cc_, .ref gK, .ref gW, .int sc])), (gN, .inl (cJ, 12, .inr (.inl bn))), (gD, .inl (cJ, 12, .inr (.inl bd))), (gC, .inl (cI, 12, .inl bc)), (gS, .inl (cI, 30, .inl bs)), (gL, .inl (cI, 30, .inl bl)), (gR, .inl (cI, 30, .inl br)), (gK, .inl (cI, 120, .inl bk)), (gW, .inl (cJ, 120, .inr (.inl bw)))]) [0, 1, 2, 3, 4, 5, 6, 7, 8] rfl
      have hD9 := hD.sub (ws' := [(oB, .inr (0, [.ref gN, .ref gD, .ref gC, .int rc, .ref gS, .ref gL, .ref gR, .int cc_, .ref gK, .ref gW, .int sc])), (gN, .inl (cJ, 12, .inr (.inl bn))), (gD, .inl (cJ, 12, .inr (.inl bd))), (gC, .inl (cI, 12, .inl bc)), (gS, .inl (cI, 30, .inl bs)), (gL, .inl (cI, 30, .inl bl)), (gR, .inl (cI, 30, .inl br)), (gK, .inl (cI, 120, .inl bk)), (gW, .inl (cJ, 120, .inr (.inl bw)))]) [0, 1, 2, 3, 4, 5, 6, 7, 8] (by decide) rfl
      exact W.zret (v := (1 : Int32)) hx hb hr (rfl) (fun t ht hW => ⟨⟨(1 : Int32), (), rfl, by rw [hF], by rw [ht]; exact hP9, hD9⟩, hS.F ht⟩) hS.2.2 d_Book_hasRoomFor_23
def f_Book_addRule (nm : Int64) (dy : Int64) (rc : Int32) (cc_ : Int32) (bn : (Nat → Int64)) (bd : (Nat → Int64)) (bc : (Nat → Int32)) : Int32 × (Nat → Int64) × (Nat → Int64) × (Nat → Int32) := (if rc < 0 then (rc, bn, bd, bc) else (if 12 ≤ rc then (rc, bn, bd, bc) else (if 12 ≤ rc then (rc, bn, bd, bc) else (if 12 ≤ rc then (rc, bn, bd, bc) else (rc + 1, vp_updL bn rc.toNatClampNeg nm, vp_updL bd rc.toNatClampNeg dy, upd bc rc.toNatClampNeg cc_)))))
abbrev q_Book_addRule (dC : Nat → ClassId) (dI : Nat → Nat → Nat) (cB cI cJ : ClassId) (oB gN gD gC gS gL gR gK gW : Nat) (nm : Int64) (dy : Int64) (rc : Int32) (cc_ : Int32) (sc : Int32) (bn : (Nat → Int64)) (bd : (Nat → Int64)) (bc : (Nat → Int32)) (bs : (Nat → Int32)) (bl : (Nat → Int32)) (br : (Nat → Int32)) (bk : (Nat → Int32)) (bw : (Nat → Int64)) (A : Nat → Prop) : Array Value → State → Outcome → State → Prop := va_Qv (fun u : Int32 × (Nat → Int64) × (Nat → Int64) × (Nat → Int32) => u = f_Book_addRule nm dy rc cc_ bn bd bc) (fun u t => va_P (dC, dI) vwCl [(oB, .inr (0, [.ref gN, .ref gD, .ref gC, .int u.1, .ref gS, .ref gL, .ref gR, .int cc_, .ref gK, .ref gW, .int sc])), (gN, .inl (cJ, 12, .inr (.inl u.2.1))), (gD, .inl (cJ, 12, .inr (.inl u.2.2.1))), (gC, .inl (cI, 12, .inl u.2.2.2)), (gS, .inl (cI, 30, .inl bs)), (gL, .inl (cI, 30, .inl bl)), (gR, .inl (cI, 30, .inl br)), (gK, .inl (cI, 120, .inl bk)), (gW, .inl (cJ, 120, .inr (.inl bw)))] t.heap ∧ va_D A [(oB, .inr (0, [.ref gN, .ref gD, .ref gC, .int u.1, .ref gS, .ref gL, .ref gR, .int cc_, .ref gK, .ref gW, .int sc])), (gN, .inl (cJ, 12, .inr (.inl u.2.1))), (gD, .inl (cJ, 12, .inr (.inl u.2.2.1))), (gC, .inl (cI, 12, .inl u.2.2.2)), (gS, .inl (cI, 30, .inl bs)), (gL, .inl (cI, 30, .inl bl)), (gR, .inl (cI, 30, .inl br)), (gK, .inl (cI, 120, .inl bk)), (gW, .inl (cJ, 120, .inr (.inl bw)))]) A
set_option maxHeartbeats 4000000 in
set_option maxRecDepth 100000 in
theorem c_Book_addRule (l : Launch) (dC : Nat → ClassId) (dI : Nat → Nat → Nat) (cB cI cJ : ClassId) (oB gN gD gC gS gL gR gK gW : Nat) (sz : Nat) (nm : Int64) (dy : Int64) (rc : Int32) (cc_ : Int32) (sc : Int32) (bn : (Nat → Int64)) (bd : (Nat → Int64)) (bc : (Nat → Int32)) (bs : (Nat → Int32)) (bl : (Nat → Int32)) (br : (Nat → Int32)) (bk : (Nat → Int32)) (bw : (Nat → Int64)) : Met l y_Book_addRule (cw_Book_addRule :: bgw) { frames := 0, cells := 0, slots := 0, locals := 0 } (va_Pc [.ref oB, .long nm, .long dy] (kb_B dC dI cB cI cJ [(oB, .inr (0, [.ref gN, .ref gD, .ref gC, .int rc, .ref gS, .ref gL, .ref gR, .int cc_, .ref gK, .ref gW, .int sc])), (gN, .inl (cJ, 12, .inr (.inl bn))), (gD, .inl (cJ, 12, .inr (.inl bd))), (gC, .inl (cI, 12, .inl bc)), (gS, .inl (cI, 30, .inl bs)), (gL, .inl (cI, 30, .inl bl)), (gR, .inl (cI, 30, .inl br)), (gK, .inl (cI, 120, .inl bk)), (gW, .inl (cJ, 120, .inr (.inl bw)))] sz)) (q_Book_addRule dC dI cB cI cJ oB gN gD gC gS gL gR gK gW nm dy rc cc_ sc bn bd bc bs bl br bk bw (va_A [(oB, .inr (0, [.ref gN, .ref gD, .ref gC, .int rc, .ref gS, .ref gL, .ref gR, .int cc_, .ref gK, .ref gW, .int sc])), (gN, .inl (cJ, 12, .inr (.inl bn))), (gD, .inl (cJ, 12, .inr (.inl bd))), (gC, .inl (cI, 12, .inl bc)), (gS, .inl (cI, 30, .inl bs)), (gL, .inl (cI, 30, .inl bl)), (gR, .inl (cI, 30, .inl br)), (gK, .inl (cI, 120, .inl bk)), (gW, .inl (cJ, 120, .inr (.inl bw)))] sz)) 0 0 (va_A [(oB, .inr (0, [.ref gN, .ref gD, .ref gC, .int rc, .ref gS, .ref gL, .ref gR, .int cc_, .ref gK, .ref gW, .int sc])), (gN, .inl (cJ, 12, .inr (.inl bn))), (gD, .inl (cJ, 12, .inr (.inl bd))), (gC, .inl (cI, 12, .inl bc)), (gS, .inl (cI, 30, .inl bs)), (gL, .inl (cI, 30, .inl bl)), (gR, .inl (cI, 30, .inl br)), (gK, .inl (cI, 120, .inl bk)), (gW, .inl (cJ, 120, .inr (.inl bw)))] sz) := by
  refine Met.ofW (cc := prog_2_method_5_code) (maxL := 6) (ret := none) (by decide) rfl ?_
  intro p e s m args below meth c s₁ B hml hv
  obtain ⟨rfl, hsz, hP, hKx, hD0⟩ := hv
  have hx := B.exec
  have hb := B.bytes
  have hr := B.returns
  have hts := atoms_spec (ws := (cw_Book_addRule :: bgw)) B.pre
  have hown : s.vm.findClass "PermitRules$Book" = some m.cls := findClass_of_methodNamed B.named
  have hlocks := B.notSynchronized
  have htb := fun (w : Cond) (h : w ∈ bgw) => hts w (List.mem_cons_of_mem _ h)
  have hK := hKx.1
  subst hsz
  have hD := hD0.self (sz := s.heap.size)
  generalize hAe : va_A [(oB, .inr (0, [.ref gN, .ref gD, .ref gC, .int rc, .ref gS, .ref gL, .ref gR, .int cc_, .ref gK, .ref gW, .int sc])), (gN, .inl (cJ, 12, .inr (.inl bn))), (gD, .inl (cJ, 12, .inr (.inl bd))), (gC, .inl (cI, 12, .inl bc)), (gS, .inl (cI, 30, .inl bs)), (gL, .inl (cI, 30, .inl bl)), (gR, .inl (cI, 30, .inl br)), (gK, .inl (cI, 120, .inl bk)), (gW, .inl (cJ, 120, .inr (.inl bw)))] s.heap.size = A at hD ⊢
  have hA : ∀ q : Nat, s.heap.size ≤ q → A q := fun q h => by rw [← hAe]; exact Or.inr h
  have hS : va_S A s.heap s.heap [] := va_S.rf
  have hl := lv_entry ([.ref oB, .long nm, .long dy]) (n := 6) (Nat.le_of_ble_eq_true rfl)
  rw [lg_entry_eq]
  generalize (lg_sl ([.ref oB, .long nm, .long dy]) ++ List.replicate (6 - (lg_sl ([.ref oB, .long nm, .long dy])).length) Slot.unset).toArray = ls at hl ⊢
  have hl : lv_has ls 6 [(0, .ref oB), (1, .long nm), (3, .long dy)] := hl
  have hP : va_P (dC, dI) vwCl [(oB, .inr (0, [.ref gN, .ref gD, .ref gC, .int rc, .ref gS, .ref gL, .ref gR, .int cc_, .ref gK, .ref gW, .int sc])), (gN, .inl (cJ, 12, .inr (.inl bn))), (gD, .inl (cJ, 12, .inr (.inl bd))), (gC, .inl (cI, 12, .inl bc)), (gS, .inl (cI, 30, .inl bs)), (gL, .inl (cI, 30, .inl bl)), (gR, .inl (cI, 30, .inl br)), (gK, .inl (cI, 120, .inl bk)), (gW, .inl (cJ, 120, .inr (.inl bw)))] s.heap := hP
  have hF : f_Book_addRule nm dy rc cc_ bn bd bc = (if rc < 0 then (rc, bn, bd, bc) else (if 12 ≤ rc then (rc, bn, bd, bc) else (if 12 ≤ rc then (rc, bn, bd, bc) else (if 12 ≤ rc then (rc, bn, bd, bc) else (rc + 1, vp_updL bn rc.toNatClampNeg nm, vp_updL bd rc.toNatClampNeg dy, upd bc rc.toNatClampNeg cc_))))) := rfl
  refine lv_aload_n hx hb d_Book_addRule_0 rfl (lv_at hl 0 rfl) ?_
  refine va_get (D := (dC, dI)) (ci := 0) (v := .int rc) (C := "PermitRules$Book") (T := T_Book) (N := 11) hx hb htb in_Book hown hK hP 0 rfl rfl 3 (by decide) (htb _ mb_151) (fun _ h9 => h9) rfl d_Book_addRule_1 ?_
  refine lv_istore (lv' := [(5, .int rc), (0, .ref oB), (1, .long nm), (3, .long dy)]) hx hb d_Book_addRule_4 hl (by decide) rfl (fun ls hl => ?_)
  refine lv_iload hx hb d_Book_addRule_6 (lv_at hl 0 rfl) ?_
  refine lv_if_lt (tgt := 78) hx hb d_Book_addRule_8 (by decide) (fun c_1 => ?_) (fun c_1 => ?_)
  · have hF := hF.trans (if_pos c_1)
    have hP9 := hP.sub (ws' := [(oB, .inr (0, [.ref gN, .ref gD, .ref gC, .int rc, .ref gS, .ref gL, .ref gR, .int cc_, .ref gK, .ref gW, .int sc])), (gN, .inl (cJ, 12, .inr (.inl bn))), (gD, .inl (cJ, 12, .inr (.inl bd))), (gC, .inl (cI, 12, .inl bc)), (gS, .inl (cI, 30, .inl bs)), (gL, .inl (cI, 30, .inl bl)), (gR, .inl (cI, 30, .inl br)), (gK, .inl (cI, 120, .inl bk)), (gW, .inl (cJ, 120, .inr (.inl bw)))]) [0, 1, 2, 3, 4, 5, 6, 7, 8] rfl
    have hD9 := hD.sub (ws' := [(oB, .inr (0, [.ref gN, .ref gD, .ref gC, .int rc, .ref gS, .ref gL, .ref gR, .int cc_, .ref gK, .ref gW, .int sc])), (gN, .inl (cJ, 12, .inr (.inl bn))), (gD, .inl (cJ, 12, .inr (.inl bd))), (gC, .inl (cI, 12, .inl bc)), (gS, .inl (cI, 30, .inl bs)), (gL, .inl (cI, 30, .inl bl)), (gR, .inl (cI, 30, .inl br)), (gK, .inl (cI, 120, .inl bk)), (gW, .inl (cJ, 120, .inr (.inl bw)))]) [0, 1, 2, 3, 4, 5, 6, 7, 8] (by decide) rfl
    exact W.vret hx hb hr (fun t ht hW => ⟨⟨(rc, bn, bd, bc), rfl, by rw [hF], by rw [ht]; exact hP9, hD9⟩, hS.F ht⟩) hS.2.2 d_Book_addRule_78
  · have hF := hF.trans (if_neg c_1)
    refine lv_iload hx hb d_Book_addRule_11 (lv_at hl 0 rfl) ?_
    refine lv_aload_n hx hb d_Book_addRule_13 rfl (lv_at hl 1 rfl) ?_
    refine va_get (D := (dC, dI)) (ci := 0) (v := .ref gN) (C := "PermitRules$Book") (T := T_Book) (N := 11) hx hb htb in_Book hown hK hP 0 rfl rfl 0 (by decide) (htb _ mb_148) (fun _ h9 => h9) rfl d_Book_addRule_14 ?_
    refine va_alen (v := 12) hx hb hK hP 1 2 rfl rfl (by rfl) d_Book_addRule_17 ?_
    refine lv_icmp_ge (tgt := 78) hx hb d_Book_addRule_18 (by decide) (fun c_2 => ?_) (fun c_2 => ?_)
    · have hF := hF.trans (if_pos c_2)
      have hP9 := hP.sub (ws' := [(oB, .inr (0, [.ref gN, .ref gD, .ref gC, .int rc, .ref gS, .ref gL, .ref gR, .int cc_, .ref gK, .ref gW, .int sc])), (gN, .inl (cJ, 12, .inr (.inl bn))), (gD, .inl (cJ, 12, .inr (.inl bd))), (gC, .inl (cI, 12, .inl bc)), (gS, .inl (cI, 30, .inl bs)), (gL, .inl (cI, 30, .inl bl)), (gR, .inl (cI, 30, .inl br)), (gK, .inl (cI, 120, .inl bk)), (gW, .inl (cJ, 120, .inr (.inl bw)))]) [0, 1, 2, 3, 4, 5, 6, 7, 8] rfl
      have hD9 := hD.sub (ws' := [(oB, .inr (0, [.ref gN, .ref gD, .ref gC, .int rc, .ref gS, .ref gL, .ref gR, .int cc_, .ref gK, .ref gW, .int sc])), (gN, .inl (cJ, 12, .inr (.inl bn))), (gD, .inl (cJ, 12, .inr (.inl bd))), (gC, .inl (cI, 12, .inl bc)), (gS, .inl (cI, 30, .inl bs)), (gL, .inl (cI, 30, .inl bl)), (gR, .inl (cI, 30, .inl br)), (gK, .inl (cI, 120, .inl bk)), (gW, .inl (cJ, 120, .inr (.inl bw)))]) [0, 1, 2, 3, 4, 5, 6, 7, 8] (by decide) rfl
      exact W.vret hx hb hr (fun t ht hW => ⟨⟨(rc, bn, bd, bc), rfl, by rw [hF], by rw [ht]; exact hP9, hD9⟩, hS.F ht⟩) hS.2.2 d_Book_addRule_78
    · have hF := hF.trans (if_neg c_2)
      refine lv_iload hx hb d_Book_addRule_21 (lv_at hl 0 rfl) ?_
      refine lv_aload_n hx hb d_Book_addRule_23 rfl (lv_at hl 1 rfl) ?_
      refine va_get (D := (dC, dI)) (ci := 0) (v := .ref gD) (C := "PermitRules$Book") (T := T_Book) (N := 11) hx hb htb in_Book hown hK hP 0 rfl rfl 1 (by decide) (htb _ mb_149) (fun _ h9 => h9) rfl d_Book_addRule_24 ?_
      refine va_alen (v := 12) hx hb hK hP 2 2 rfl rfl (by rfl) d_Book_addRule_27 ?_
      refine lv_icmp_ge (tgt := 78) hx hb d_Book_addRule_28 (by decide) (fun c_3 => ?_) (fun c_3 => ?_)
      · have hF := hF.trans (if_pos c_3)
        have hP9 := hP.sub (ws' := [(oB, .inr (0, [.ref gN, .ref gD, .ref gC, .int rc, .ref gS, .ref gL, .ref gR, .int cc_, .ref gK, .ref gW, .int sc])), (gN, .inl (cJ, 12, .inr (.inl bn))), (gD, .inl (cJ, 12, .inr (.inl bd))), (gC, .inl (cI, 12, .inl bc)), (gS, .inl (cI, 30, .inl bs)), (gL, .inl (cI, 30, .inl bl)), (gR, .inl (cI, 30, .inl br)), (gK, .inl (cI, 120, .inl bk)), (gW, .inl (cJ, 120, .inr (.inl bw)))]) [0, 1, 2, 3, 4, 5, 6, 7, 8] rfl
        have hD9 := hD.sub (ws' := [(oB, .inr (0, [.ref gN, .ref gD, .ref gC, .int rc, .ref gS, .ref gL, .ref gR, .int cc_, .ref gK, .ref gW, .int sc])), (gN, .inl (cJ, 12, .inr (.inl bn))), (gD, .inl (cJ, 12, .inr (.inl bd))), (gC, .inl (cI, 12, .inl bc)), (gS, .inl (cI, 30, .inl bs)), (gL, .inl (cI, 30, .inl bl)), (gR, .inl (cI, 30, .inl br)), (gK, .inl (cI, 120, .inl bk)), (gW, .inl (cJ, 120, .inr (.inl bw)))]) [0, 1, 2, 3, 4, 5, 6, 7, 8] (by decide) rfl
        exact W.vret hx hb hr (fun t ht hW => ⟨⟨(rc, bn, bd, bc), rfl, by rw [hF], by rw [ht]; exact hP9, hD9⟩, hS.F ht⟩) hS.2.2 d_Book_addRule_78
      · have hF := hF.trans (if_neg c_3)
        refine lv_iload hx hb d_Book_addRule_31 (lv_at hl 0 rfl) ?_
        refine lv_aload_n hx hb d_Book_addRule_33 rfl (lv_at hl 1 rfl) ?_
        refine va_get (D := (dC, dI)) (ci := 0) (v := .ref gC) (C := "PermitRules$Book") (T := T_Book) (N := 11) hx hb htb in_Book hown hK hP 0 rfl rfl 2 (by decide) (htb _ mb_150) (fun _ h9 => h9) rfl d_Book_addRule_34 ?_
        refine va_alen (v := 12) hx hb hK hP 3 1 rfl rfl (by rfl) d_Book_addRule_37 ?_
        refine lv_icmp_ge (tgt := 78) hx hb d_Book_addRule_38 (by decide) (fun c_4 => ?_) (fun c_4 => ?_)
        · have hF := hF.trans (if_pos c_4)
          have hP9 := hP.sub (ws' := [(oB, .inr (0, [.ref gN, .ref gD, .ref gC, .int rc, .ref gS, .ref gL, .ref gR, .int cc_, .ref gK, .ref gW, .int sc])), (gN, .inl (cJ, 12, .inr (.inl bn))), (gD, .inl (cJ, 12, .inr (.inl bd))), (gC, .inl (cI, 12, .inl bc)), (gS, .inl (cI, 30, .inl bs)), (gL, .inl (cI, 30, .inl bl)), (gR, .inl (cI, 30, .inl br)), (gK, .inl (cI, 120, .inl bk)), (gW, .inl (cJ, 120, .inr (.inl bw)))]) [0, 1, 2, 3, 4, 5, 6, 7, 8] rfl
          have hD9 := hD.sub (ws' := [(oB, .inr (0, [.ref gN, .ref gD, .ref gC, .int rc, .ref gS, .ref gL, .ref gR, .int cc_, .ref gK, .ref gW, .int sc])), (gN, .inl (cJ, 12, .inr (.inl bn))), (gD, .inl (cJ, 12, .inr (.inl bd))), (gC, .inl (cI, 12, .inl bc)), (gS, .inl (cI, 30, .inl bs)), (gL, .inl (cI, 30, .inl bl)), (gR, .inl (cI, 30, .inl br)), (gK, .inl (cI, 120, .inl bk)), (gW, .inl (cJ, 120, .inr (.inl bw)))]) [0, 1, 2, 3, 4, 5, 6, 7, 8] (by decide) rfl
          exact W.vret hx hb hr (fun t ht hW => ⟨⟨(rc, bn, bd, bc), rfl, by rw [hF], by rw [ht]; exact hP9, hD9⟩, hS.F ht⟩) hS.2.2 d_Book_addRule_78
        · have hF := hF.trans (if_neg c_4)
          refine lv_aload_n hx hb d_Book_addRule_41 rfl (lv_at hl 1 rfl) ?_
          refine va_get (D := (dC, dI)) (ci := 0) (v := .ref gN) (C := "PermitRules$Book") (T := T_Book) (N := 11) hx hb htb in_Book hown hK hP 0 rfl rfl 0 (by decide) (htb _ mb_148) (fun _ h9 => h9) rfl d_Book_addRule_42 ?_
          refine lv_iload hx hb d_Book_addRule_45 (lv_at hl 0 rfl) ?_
          refine lv_lload_n hx hb d_Book_addRule_47 rfl (lv_at hl 2 rfl) ?_
          refine va_last hx hb hK hP hD hS 1 2 rfl rfl (oi_in (N := 12) (by decide) c_1 c_4) d_Book_addRule_48 (fun H locs hP hD hS => ?_)
          have hP : va_P (dC, dI) vwCl [(oB, .inr (0, [.ref gN, .ref gD, .ref gC, .int rc, .ref gS, .ref gL, .ref gR, .int cc_, .ref gK, .ref gW, .int sc])), (gN, .inl (cJ, 12, .inr (.inl (vp_updL bn rc.toNatClampNeg nm)))), (gD, .inl (cJ, 12, .inr (.inl bd))), (gC, .inl (cI, 12, .inl bc)), (gS, .inl (cI, 30, .inl bs)), (gL, .inl (cI, 30, .inl bl)), (gR, .inl (cI, 30, .inl br)), (gK, .inl (cI, 120, .inl bk)), (gW, .inl (cJ, 120, .inr (.inl bw)))] H := hP
          have hD : va_D A [(oB, .inr (0, [.ref gN, .ref gD, .ref gC, .int rc, .ref gS, .ref gL, .ref gR, .int cc_, .ref gK, .ref gW, .int sc])), (gN, .inl (cJ, 12, .inr (.inl (vp_updL bn rc.toNatClampNeg nm)))), (gD, .inl (cJ, 12, .inr (.inl bd))), (gC, .inl (cI, 12, .inl bc)), (gS, .inl (cI, 30, .inl bs)), (gL, .inl (cI, 30, .inl bl)), (gR, .inl (cI, 30, .inl br)), (gK, .inl (cI, 120, .inl bk)), (gW, .inl (cJ, 120, .inr (.inl bw)))] := hD
          refine lv_aload_n hx hb d_Book_addRule_49 rfl (lv_at hl 1 rfl) ?_
          refine va_get (D := (dC, dI)) (ci := 0) (v := .ref gD) (C := "PermitRules$Book") (T := T_Book) (N := 11) hx hb htb in_Book hown hK hP 0 rfl rfl 1 (by decide) (htb _ mb_149) (fun _ h9 => h9) rfl d_Book_addRule_50 ?_
          refine lv_iload hx hb d_Book_addRule_53 (lv_at hl 0 rfl) ?_
          refine lv_lload_n hx hb d_Book_addRule_55 rfl (lv_at hl 3 rfl) ?_
          refine va_last hx hb hK hP hD hS 2 2 rfl rfl (oi_in (N := 12) (by decide) c_1 c_4) d_Book_addRule_56 (fun H locs hP hD hS => ?_)
          have hP : va_P (dC, dI) vwCl [(oB, .inr (0, [.ref gN, .ref gD, .ref gC, .int rc, .ref gS, .ref gL, .ref gR, .int cc_, .ref gK, .ref gW, .int sc])), (gN, .inl (cJ, 12, .inr (.inl (vp_updL bn rc.toNatClampNeg nm)))), (gD, .inl (cJ, 12, .inr (.inl (vp_updL bd rc.toNatClampNeg dy)))), (gC, .inl (cI, 12, .inl bc)), (gS, .inl (cI, 30, .inl bs)), (gL, .inl (cI, 30, .inl bl)), (gR, .inl (cI, 30, .inl br)), (gK, .inl (cI, 120, .inl bk)), (gW, .inl (cJ, 120, .inr (.inl bw)))] H := hP
          have hD : va_D A [(oB, .inr (0, [.ref gN, .ref gD, .ref gC, .int rc, .ref gS, .ref gL, .ref gR, .int cc_, .ref gK, .ref gW, .int sc])), (gN, .inl (cJ, 12, .inr (.inl (vp_updL bn rc.toNatClampNeg nm)))), (gD, .inl (cJ, 12, .inr (.inl (vp_updL bd rc.toNatClampNeg dy)))), (gC, .inl (cI, 12, .inl bc)), (gS, .inl (cI, 30, .inl bs)), (gL, .inl (cI, 30, .inl bl)), (gR, .inl (cI, 30, .inl br)), (gK, .inl (cI, 120, .inl bk)), (gW, .inl (cJ, 120, .inr (.inl bw)))] := hD
          refine lv_aload_n hx hb d_Book_addRule_57 rfl (lv_at hl 1 rfl) ?_
          refine va_get (D := (dC, dI)) (ci := 0) (v := .ref gC) (C := "PermitRules$Book") (T := T_Book) (N := 11) hx hb htb in_Book hown hK hP 0 rfl rfl 2 (by decide) (htb _ mb_150) (fun _ h9 => h9) rfl d_Book_addRule_58 ?_
          refine lv_iload hx hb d_Book_addRule_61 (lv_at hl 0 rfl) ?_
          refine lv_aload_n hx hb d_Book_addRule_63 rfl (lv_at hl 1 rfl) ?_
          refine va_get (D := (dC, dI)) (ci := 0) (v := .int cc_) (C := "PermitRules$Book") (T := T_Book) (N := 11) hx hb htb in_Book hown hK hP 0 rfl rfl 7 (by decide) (htb _ mb_156) (fun _ h9 => h9) rfl d_Book_addRule_64 ?_
          refine va_iast hx hb hK hP hD hS 3 1 rfl rfl (oi_in (N := 12) (by decide) c_1 c_4) d_Book_addRule_67 (fun H locs hP hD hS => ?_)
          have hP : va_P (dC, dI) vwCl [(oB, .inr (0, [.ref gN, .ref gD, .ref gC, .int rc, .ref gS, .ref gL, .ref gR, .int cc_, .ref gK, .ref gW, .int sc])), (gN, .inl (cJ, 12, .inr (.inl (vp_updL bn rc.toNatClampNeg nm)))), (gD, .inl (cJ, 12, .inr (.inl (vp_updL bd rc.toNatClampNeg dy)))), (gC, .inl (cI, 12, .inl (upd bc rc.toNatClampNeg cc_))), (gS, .inl (cI, 30, .inl bs)), (gL, .inl (cI, 30, .inl bl)), (gR, .inl (cI, 30, .inl br)), (gK, .inl (cI, 120, .inl bk)), (gW, .inl (cJ, 120, .inr (.inl bw)))] H := hP
          have hD : va_D A [(oB, .inr (0, [.ref gN, .ref gD, .ref gC, .int rc, .ref gS, .ref gL, .ref gR, .int cc_, .ref gK, .ref gW, .int sc])), (gN, .inl (cJ, 12, .inr (.inl (vp_updL bn rc.toNatClampNeg nm)))), (gD, .inl (cJ, 12, .inr (.inl (vp_updL bd rc.toNatClampNeg dy)))), (gC, .inl (cI, 12, .inl (upd bc rc.toNatClampNeg cc_))), (gS, .inl (cI, 30, .inl bs)), (gL, .inl (cI, 30, .inl bl)), (gR, .inl (cI, 30, .inl br)), (gK, .inl (cI, 120, .inl bk)), (gW, .inl (cJ, 120, .inr (.inl bw)))] := hD
          refine lv_aload_n hx hb d_Book_addRule_68 rfl (lv_at hl 1 rfl) ?_
          refine lv_dup hx hb d_Book_addRule_69 rfl ?_
          refine va_get (D := (dC, dI)) (ci := 0) (v := .int rc) (C := "PermitRules$Book") (T := T_Book) (N := 11) hx hb htb in_Book hown hK hP 0 rfl rfl 3 (by decide) (htb _ mb_151) (fun _ h9 => h9) rfl d_Book_addRule_70 ?_
          refine lv_iconst (v := 1) hx hb d_Book_addRule_73 (by decide) ?_
          refine lv_iadd hx hb d_Book_addRule_74 ?_
          refine va_put (D := (dC, dI)) (ci := 0) (v := .int (rc + 1)) (ty := .int) (C := "PermitRules$Book") (T := T_Book) (N := 11) hx hb htb in_Book ty_Book to_Book nm_Book hown hK hP hD hS 0 rfl rfl 3 (by decide) (htb _ mb_151) (fun _ h9 => h9) rfl (by decide +kernel) rfl rfl (Nat.le_of_ble_eq_true rfl) d_Book_addRule_75 (fun H locs hP hD hS => ?_)
          have hP : va_P (dC, dI) vwCl [(oB, .inr (0, [.ref gN, .ref gD, .ref gC, .int (rc + 1), .ref gS, .ref gL, .ref gR, .int cc_, .ref gK, .ref gW, .int sc])), (gN, .inl (cJ, 12, .inr (.inl (vp_updL bn rc.toNatClampNeg nm)))), (gD, .inl (cJ, 12, .inr (.inl (vp_updL bd rc.toNatClampNeg dy)))), (gC, .inl (cI, 12, .inl (upd bc rc.toNatClampNeg cc_))), (gS, .inl (cI, 30, .inl bs)), (gL, .inl (cI, 30, .inl bl)), (gR, .inl (cI, 30, .inl br)), (gK, .inl (cI, 120, .inl bk)), (gW, .inl (cJ, 120, .inr (.inl bw)))] H := hP
          have hD : va_D A [(oB, .inr (0, [.ref gN, .ref gD, .ref gC, .int (rc + 1), .ref gS, .ref gL, .ref gR, .int cc_, .ref gK, .ref gW, .int sc])), (gN, .inl (cJ, 12, .inr (.inl (vp_updL bn rc.toNatClampNeg nm)))), (gD, .inl (cJ, 12, .inr (.inl (vp_updL bd rc.toNatClampNeg dy)))), (gC, .inl (cI, 12, .inl (upd bc rc.toNatClampNeg cc_))), (gS, .inl (cI, 30, .inl bs)), (gL, .inl (cI, 30, .inl bl)), (gR, .inl (cI, 30, .inl br)), (gK, .inl (cI, 120, .inl bk)), (gW, .inl (cJ, 120, .inr (.inl bw)))] := hD
          have hP9 := hP.sub (ws' := [(oB, .inr (0, [.ref gN, .ref gD, .ref gC, .int (rc + 1), .ref gS, .ref gL, .ref gR, .int cc_, .ref gK, .ref gW, .int sc])), (gN, .inl (cJ, 12, .inr (.inl (vp_updL bn rc.toNatClampNeg nm)))), (gD, .inl (cJ, 12, .inr (.inl (vp_updL bd rc.toNatClampNeg dy)))), (gC, .inl (cI, 12, .inl (upd bc rc.toNatClampNeg cc_))), (gS, .inl (cI, 30, .inl bs)), (gL, .inl (cI, 30, .inl bl)), (gR, .inl (cI, 30, .inl br)), (gK, .inl (cI, 120, .inl bk)), (gW, .inl (cJ, 120, .inr (.inl bw)))]) [0, 1, 2, 3, 4, 5, 6, 7, 8] rfl
          have hD9 := hD.sub (ws' := [(oB, .inr (0, [.ref gN, .ref gD, .ref gC, .int (rc + 1), .ref gS, .ref gL, .ref gR, .int cc_, .ref gK, .ref gW, .int sc])), (gN, .inl (cJ, 12, .inr (.inl (vp_updL bn rc.toNatClampNeg nm)))), (gD, .inl (cJ, 12, .inr (.inl (vp_updL bd rc.toNatClampNeg dy)))), (gC, .inl (cI, 12, .inl (upd bc rc.toNatClampNeg cc_))), (gS, .inl (cI, 30, .inl bs)), (gL, .inl (cI, 30, .inl bl)), (gR, .inl (cI, 30, .inl br)), (gK, .inl (cI, 120, .inl bk)), (gW, .inl (cJ, 120, .inr (.inl bw)))]) [0, 1, 2, 3, 4, 5, 6, 7, 8] (by decide) rfl
          exact W.vret hx hb hr (fun t ht hW => ⟨⟨(rc + 1, vp_updL bn rc.toNatClampNeg nm, vp_updL bd rc.toNatClampNeg dy, upd bc rc.toNatClampNeg cc_), rfl, by rw [hF], by rw [ht]; exact hP9, hD9⟩, hS.F ht⟩) hS.2.2 d_Book_addRule_78
def f_Book_addClause (sg : Int32) (bh : Int32) (cc_ : Int32) (sc : Int32) (bs : (Nat → Int32)) (bl : (Nat → Int32)) (br : (Nat → Int32)) : Int32 × (Nat → Int32) × (Nat → Int32) × (Nat → Int32) := (if cc_ < 0 then (cc_, bs, bl, br) else (if 30 ≤ cc_ then (cc_, bs, bl, br) else (if 30 ≤ cc_ then (cc_, bs, bl, br) else (if 30 ≤ cc_ then (cc_, bs, bl, br) else (cc_ + 1, upd bs cc_.toNatClampNeg sg, upd bl cc_.toNatClampNeg bh, upd br cc_.toNatClampNeg sc)))))
abbrev q_Book_addClause (dC : Nat → ClassId) (dI : Nat → Nat → Nat) (cB cI cJ : ClassId) (oB gN gD gC gS gL gR gK gW : Nat) (sg : Int32) (bh : Int32) (rc : Int32) (cc_ : Int32) (sc : Int32) (bn : (Nat → Int64)) (bd : (Nat → Int64)) (bc : (Nat → Int32)) (bs : (Nat → Int32)) (bl : (Nat → Int32)) (br : (Nat → Int32)) (bk : (Nat → Int32)) (bw : (Nat → Int64)) (A : Nat → Prop) : Array Value → State → Outcome → State → Prop := va_Qv (fun u : Int32 × (Nat → Int32) × (Nat → Int32) × (Nat → Int32) => u = f_Book_addClause sg bh cc_ sc bs bl br) (fun u t => va_P (dC, dI) vwCl [(oB, .inr (0, [.ref gN, .ref gD, .ref gC, .int rc, .ref gS, .ref gL, .ref gR, .int u.1, .ref gK, .ref gW, .int sc])), (gN, .inl (cJ, 12, .inr (.inl bn))), (gD, .inl (cJ, 12, .inr (.inl bd))), (gC, .inl (cI, 12, .inl bc)), (gS, .inl (cI, 30, .inl u.2.1)), (gL, .inl (cI, 30, .inl u.2.2.1)), (gR, .inl (cI, 30, .inl u.2.2.2)), (gK, .inl (cI, 120, .inl bk)), (gW, .inl (cJ, 120, .inr (.inl bw)))] t.heap ∧ va_D A [(oB, .inr (0, [.ref gN, .ref gD, .ref gC, .int rc, .ref gS, .ref gL, .ref gR, .int u.1, .ref gK, .ref gW, .int sc])), (gN, .inl (cJ, 12, .inr (.inl bn))), (gD, .inl (cJ, 12, .inr (.inl bd))), (gC, .inl (cI, 12, .inl bc)), (gS, .inl (cI, 30, .inl u.2.1)), (gL, .inl (cI, 30, .inl u.2.2.1)), (gR, .inl (cI, 30, .inl u.2.2.2)), (gK, .inl (cI, 120, .inl bk)), (gW, .inl (cJ, 120, .inr (.inl bw)))]) A
set_option maxHeartbeats 4000000 in
set_option maxRecDepth 100000 in
theorem c_Book_addClause (l : Launch) (dC : Nat → ClassId) (dI : Nat → Nat → Nat) (cB cI cJ : ClassId) (oB gN gD gC gS gL gR gK gW : Nat) (sz : Nat) (sg : Int32) (bh : Int32) (rc : Int32) (cc_ : Int32) (sc : Int32) (bn : (Nat → Int64)) (bd : (Nat → Int64)) (bc : (Nat → Int32)) (bs : (Nat → Int32)) (bl : (Nat → Int32)) (br : (Nat → Int32)) (bk : (Nat → Int32)) (bw : (Nat → Int64)) : Met l y_Book_addClause (cw_Book_addClause :: bgw) { frames := 0, cells := 0, slots := 0, locals := 0 } (va_Pc [.ref oB, .int sg, .int bh] (kb_B dC dI cB cI cJ [(oB, .inr (0, [.ref gN, .ref gD, .ref gC, .int rc, .ref gS, .ref gL, .ref gR, .int cc_, .ref gK, .ref gW, .int sc])), (gN, .inl (cJ, 12, .inr (.inl bn))), (gD, .inl (cJ, 12, .inr (.inl bd))), (gC, .inl (cI, 12, .inl bc)), (gS, .inl (cI, 30, .inl bs)), (gL, .inl (cI, 30, .inl bl)), (gR, .inl (cI, 30, .inl br)), (gK, .inl (cI, 120, .inl bk)), (gW, .inl (cJ, 120, .inr (.inl bw)))] sz)) (q_Book_addClause dC dI cB cI cJ oB gN gD gC gS gL gR gK gW sg bh rc cc_ sc bn bd bc bs bl br bk bw (va_A [(oB, .inr (0, [.ref gN, .ref gD, .ref gC, .int rc, .ref gS, .ref gL, .ref gR, .int cc_, .ref gK, .ref gW, .int sc])), (gN, .inl (cJ, 12, .inr (.inl bn))), (gD, .inl (cJ, 12, .inr (.inl bd))), (gC, .inl (cI, 12, .inl bc)), (gS, .inl (cI, 30, .inl bs)), (gL, .inl (cI, 30, .inl bl)), (gR, .inl (cI, 30, .inl br)), (gK, .inl (cI, 120, .inl bk)), (gW, .inl (cJ, 120, .inr (.inl bw)))] sz)) 0 0 (va_A [(oB, .inr (0, [.ref gN, .ref gD, .ref gC, .int rc, .ref gS, .ref gL, .ref gR, .int cc_, .ref gK, .ref gW, .int sc])), (gN, .inl (cJ, 12, .inr (.inl bn))), (gD, .inl (cJ, 12, .inr (.inl bd))), (gC, .inl (cI, 12, .inl bc)), (gS, .inl (cI, 30, .inl bs)), (gL, .inl (cI, 30, .inl bl)), (gR, .inl (cI, 30, .inl br)), (gK, .inl (cI, 120, .inl bk)), (gW, .inl (cJ, 120, .inr (.inl bw)))] sz) := by
  refine Met.ofW (cc := prog_2_method_6_code) (maxL := 4) (ret := none) (by decide) rfl ?_
  intro p e s m args below meth c s₁ B hml hv
  obtain ⟨rfl, hsz, hP, hKx, hD0⟩ := hv
  have hx := B.exec
  have hb := B.bytes
  have hr := B.returns
  have hts := atoms_spec (ws := (cw_Book_addClause :: bgw)) B.pre
  have hown : s.vm.findClass "PermitRules$Book" = some m.cls := findClass_of_methodNamed B.named
  have hlocks := B.notSynchronized
  have htb := fun (w : Cond) (h : w ∈ bgw) => hts w (List.mem_cons_of_mem _ h)
  have hK := hKx.1
  subst hsz
  have hD := hD0.self (sz := s.heap.size)
  generalize hAe : va_A [(oB, .inr (0, [.ref gN, .ref gD, .ref gC, .int rc, .ref gS, .ref gL, .ref gR, .int cc_, .ref gK, .ref gW, .int sc])), (gN, .inl (cJ, 12, .inr (.inl bn))), (gD, .inl (cJ, 12, .inr (.inl bd))), (gC, .inl (cI, 12, .inl bc)), (gS, .inl (cI, 30, .inl bs)), (gL, .inl (cI, 30, .inl bl)), (gR, .inl (cI, 30, .inl br)), (gK, .inl (cI, 120, .inl bk)), (gW, .inl (cJ, 120, .inr (.inl bw)))] s.heap.size = A at hD ⊢
  have hA : ∀ q : Nat, s.heap.size ≤ q → A q := fun q h => by rw [← hAe]; exact Or.inr h
  have hS : va_S A s.heap s.heap [] := va_S.rf
  have hl := lv_entry ([.ref oB, .int sg, .int bh]) (n := 4) (Nat.le_of_ble_eq_true rfl)
  rw [lg_entry_eq]
  generalize (lg_sl ([.ref oB, .int sg, .int bh]) ++ List.replicate (4 - (lg_sl ([.ref oB, .int sg, .int bh])).length) Slot.unset).toArray = ls at hl ⊢
  have hl : lv_has ls 4 [(0, .ref oB), (1, .int sg), (2, .int bh)] := hl
  have hP : va_P (dC, dI) vwCl [(oB, .inr (0, [.ref gN, .ref gD, .ref gC, .int rc, .ref gS, .ref gL, .ref gR, .int cc_, .ref gK, .ref gW, .int sc])), (gN, .inl (cJ, 12, .inr (.inl bn))), (gD, .inl (cJ, 12, .inr (.inl bd))), (gC, .inl (cI, 12, .inl bc)), (gS, .inl (cI, 30, .inl bs)), (gL, .inl (cI, 30, .inl bl)), (gR, .inl (cI, 30, .inl br)), (gK, .inl (cI, 120, .inl bk)), (gW, .inl (cJ, 120, .inr (.inl bw)))] s.heap := hP
  have hF : f_Book_addClause sg bh cc_ sc bs bl br = (if cc_ < 0 then (cc_, bs, bl, br) else (if 30 ≤ cc_ then (cc_, bs, bl, br) else (if 30 ≤ cc_ then (cc_, bs, bl, br) else (if 30 ≤ cc_ then (cc_, bs, bl, br) else (cc_ + 1, upd bs cc_.toNatClampNeg sg, upd bl cc_.toNatClampNeg bh, upd br cc_.toNatClampNeg sc))))) := rfl
  refine lv_aload_n hx hb d_Book_addClause_0 rfl (lv_at hl 0 rfl) ?_
  refine va_get (D := (dC, dI)) (ci := 0) (v := .int cc_) (C := "PermitRules$Book") (T := T_Book) (N := 11) hx hb htb in_Book hown hK hP 0 rfl rfl 7 (by decide) (htb _ mb_156) (fun _ h9 => h9) rfl d_Book_addClause_1 ?_
  refine lv_istore_n (lv' := [(3, .int cc_), (0, .ref oB), (1, .int sg), (2, .int bh)]) hx hb d_Book_addClause_4 rfl hl (by decide) rfl (fun ls hl => ?_)
  refine lv_iload_n hx hb d_Book_addClause_5 rfl (lv_at hl 0 rfl) ?_
  refine lv_if_lt (tgt := 70) hx hb d_Book_addClause_6 (by decide) (fun c_1 => ?_) (fun c_1 => ?_)
  · have hF := hF.trans (if_pos c_1)
    have hP9 := hP.sub (ws' := [(oB, .inr (0, [.ref gN, .ref gD, .ref gC, .int rc, .ref gS, .ref gL, .ref gR, .int cc_, .ref gK, .ref gW, .int sc])), (gN, .inl (cJ, 12, .inr (.inl bn))), (gD, .inl (cJ, 12, .inr (.inl bd))), (gC, .inl (cI, 12, .inl bc)), (gS, .inl (cI, 30, .inl bs)), (gL, .inl (cI, 30, .inl bl)), (gR, .inl (cI, 30, .inl br)), (gK, .inl (cI, 120, .inl bk)), (gW, .inl (cJ, 120, .inr (.inl bw)))]) [0, 1, 2, 3, 4, 5, 6, 7, 8] rfl
    have hD9 := hD.sub (ws' := [(oB, .inr (0, [.ref gN, .ref gD, .ref gC, .int rc, .ref gS, .ref gL, .ref gR, .int cc_, .ref gK, .ref gW, .int sc])), (gN, .inl (cJ, 12, .inr (.inl bn))), (gD, .inl (cJ, 12, .inr (.inl bd))), (gC, .inl (cI, 12, .inl bc)), (gS, .inl (cI, 30, .inl bs)), (gL, .inl (cI, 30, .inl bl)), (gR, .inl (cI, 30, .inl br)), (gK, .inl (cI, 120, .inl bk)), (gW, .inl (cJ, 120, .inr (.inl bw)))]) [0, 1, 2, 3, 4, 5, 6, 7, 8] (by decide) rfl
    exact W.vret hx hb hr (fun t ht hW => ⟨⟨(cc_, bs, bl, br), rfl, by rw [hF], by rw [ht]; exact hP9, hD9⟩, hS.F ht⟩) hS.2.2 d_Book_addClause_70
  · have hF := hF.trans (if_neg c_1)
    refine lv_iload_n hx hb d_Book_addClause_9 rfl (lv_at hl 0 rfl) ?_
    refine lv_aload_n hx hb d_Book_addClause_10 rfl (lv_at hl 1 rfl) ?_
    refine va_get (D := (dC, dI)) (ci := 0) (v := .ref gS) (C := "PermitRules$Book") (T := T_Book) (N := 11) hx hb htb in_Book hown hK hP 0 rfl rfl 4 (by decide) (htb _ mb_153) (fun _ h9 => h9) rfl d_Book_addClause_11 ?_
    refine va_alen (v := 30) hx hb hK hP 4 1 rfl rfl (by rfl) d_Book_addClause_14 ?_
    refine lv_icmp_ge (tgt := 70) hx hb d_Book_addClause_15 (by decide) (fun c_2 => ?_) (fun c_2 => ?_)
    · have hF := hF.trans (if_pos c_2)
      have hP9 := hP.sub (ws' := [(oB, .inr (0, [.ref gN, .ref gD, .ref gC, .int rc, .ref gS, .ref gL, .ref gR, .int cc_, .ref gK, .ref gW, .int sc])), (gN, .inl (cJ, 12, .inr (.inl bn))), (gD, .inl (cJ, 12, .inr (.inl bd))), (gC, .inl (cI, 12, .inl bc)), (gS, .inl (cI, 30, .inl bs)), (gL, .inl (cI, 30, .inl bl)), (gR, .inl (cI, 30, .inl br)), (gK, .inl (cI, 120, .inl bk)), (gW, .inl (cJ, 120, .inr (.inl bw)))]) [0, 1, 2, 3, 4, 5, 6, 7, 8] rfl
      have hD9 := hD.sub (ws' := [(oB, .inr (0, [.ref gN, .ref gD, .ref gC, .int rc, .ref gS, .ref gL, .ref gR, .int cc_, .ref gK, .ref gW, .int sc])), (gN, .inl (cJ, 12, .inr (.inl bn))), (gD, .inl (cJ, 12, .inr (.inl bd))), (gC, .inl (cI, 12, .inl bc)), (gS, .inl (cI, 30, .inl bs)), (gL, .inl (cI, 30, .inl bl)), (gR, .inl (cI, 30, .inl br)), (gK, .inl (cI, 120, .inl bk)), (gW, .inl (cJ, 120, .inr (.inl bw)))]) [0, 1, 2, 3, 4, 5, 6, 7, 8] (by decide) rfl
      exact W.vret hx hb hr (fun t ht hW => ⟨⟨(cc_, bs, bl, br), rfl, by rw [hF], by rw [ht]; exact hP9, hD9⟩, hS.F ht⟩) hS.2.2 d_Book_addClause_70
    · have hF := hF.trans (if_neg c_2)
      refine lv_iload_n hx hb d_Book_addClause_18 rfl (lv_at hl 0 rfl) ?_
      refine lv_aload_n hx hb d_Book_addClause_19 rfl (lv_at hl 1 rfl) ?_
      refine va_get (D := (dC, dI)) (ci := 0) (v := .ref gL) (C := "PermitRules$Book") (T := T_Book) (N := 11) hx hb htb in_Book hown hK hP 0 rfl rfl 5 (by decide) (htb _ mb_154) (fun _ h9 => h9) rfl d_Book_addClause_20 ?_
      refine va_alen (v := 30) hx hb hK hP 5 1 rfl rfl (by rfl) d_Book_addClause_23 ?_
      refine lv_icmp_ge (tgt := 70) hx hb d_Book_addClause_24 (by decide) (fun c_3 => ?_) (fun c_3 => ?_)
      · have hF := hF.trans (if_pos c_3)
        have hP9 := hP.sub (ws' := [(oB, .inr (0, [.ref gN, .ref gD, .ref gC, .int rc, .ref gS, .ref gL, .ref gR, .int cc_, .ref gK, .ref gW, .int sc])), (gN, .inl (cJ, 12, .inr (.inl bn))), (gD, .inl (cJ, 12, .inr (.inl bd))), (gC, .inl (cI, 12, .inl bc)), (gS, .inl (cI, 30, .inl bs)), (gL, .inl (cI, 30, .inl bl)), (gR, .inl (cI, 30, .inl br)), (gK, .inl (cI, 120, .inl bk)), (gW, .inl (cJ, 120, .inr (.inl bw)))]) [0, 1, 2, 3, 4, 5, 6, 7, 8] rfl
        have hD9 := hD.sub (ws' := [(oB, .inr (0, [.ref gN, .ref gD, .ref gC, .int rc, .ref gS, .ref gL, .ref gR, .int cc_, .ref gK, .ref gW, .int sc])), (gN, .inl (cJ, 12, .inr (.inl bn))), (gD, .inl (cJ, 12, .inr (.inl bd))), (gC, .inl (cI, 12, .inl bc)), (gS, .inl (cI, 30, .inl bs)), (gL, .inl (cI, 30, .inl bl)), (gR, .inl (cI, 30, .inl br)), (gK, .inl (cI, 120, .inl bk)), (gW, .inl (cJ, 120, .inr (.inl bw)))]) [0, 1, 2, 3, 4, 5, 6, 7, 8] (by decide) rfl
        exact W.vret hx hb hr (fun t ht hW => ⟨⟨(cc_, bs, bl, br), rfl, by rw [hF], by rw [ht]; exact hP9, hD9⟩, hS.F ht⟩) hS.2.2 d_Book_addClause_70
      · have hF := hF.trans (if_neg c_3)
        refine lv_iload_n hx hb d_Book_addClause_27 rfl (lv_at hl 0 rfl) ?_
        refine lv_aload_n hx hb d_Book_addClause_28 rfl (lv_at hl 1 rfl) ?_
        refine va_get (D := (dC, dI)) (ci := 0) (v := .ref gR) (C := "PermitRules$Book") (T := T_Book) (N := 11) hx hb htb in_Book hown hK hP 0 rfl rfl 6 (by decide) (htb _ mb_155) (fun _ h9 => h9) rfl d_Book_addClause_29 ?_
        refine va_alen (v := 30) hx hb hK hP 6 1 rfl rfl (by rfl) d_Book_addClause_32 ?_
        refine lv_icmp_ge (tgt := 70) hx hb d_Book_addClause_33 (by decide) (fun c_4 => ?_) (fun c_4 => ?_)
        · have hF := hF.trans (if_pos c_4)
          have hP9 := hP.sub (ws' := [(oB, .inr (0, [.ref gN, .ref gD, .ref gC, .int rc, .ref gS, .ref gL, .ref gR, .int cc_, .ref gK, .ref gW, .int sc])), (gN, .inl (cJ, 12, .inr (.inl bn))), (gD, .inl (cJ, 12, .inr (.inl bd))), (gC, .inl (cI, 12, .inl bc)), (gS, .inl (cI, 30, .inl bs)), (gL, .inl (cI, 30, .inl bl)), (gR, .inl (cI, 30, .inl br)), (gK, .inl (cI, 120, .inl bk)), (gW, .inl (cJ, 120, .inr (.inl bw)))]) [0, 1, 2, 3, 4, 5, 6, 7, 8] rfl
          have hD9 := hD.sub (ws' := [(oB, .inr (0, [.ref gN, .ref gD, .ref gC, .int rc, .ref gS, .ref gL, .ref gR, .int cc_, .ref gK, .ref gW, .int sc])), (gN, .inl (cJ, 12, .inr (.inl bn))), (gD, .inl (cJ, 12, .inr (.inl bd))), (gC, .inl (cI, 12, .inl bc)), (gS, .inl (cI, 30, .inl bs)), (gL, .inl (cI, 30, .inl bl)), (gR, .inl (cI, 30, .inl br)), (gK, .inl (cI, 120, .inl bk)), (gW, .inl (cJ, 120, .inr (.inl bw)))]) [0, 1, 2, 3, 4, 5, 6, 7, 8] (by decide) rfl
          exact W.vret hx hb hr (fun t ht hW => ⟨⟨(cc_, bs, bl, br), rfl, by rw [hF], by rw [ht]; exact hP9, hD9⟩, hS.F ht⟩) hS.2.2 d_Book_addClause_70
        · have hF := hF.trans (if_neg c_4)
          refine lv_aload_n hx hb d_Book_addClause_36 rfl (lv_at hl 1 rfl) ?_
          refine va_get (D := (dC, dI)) (ci := 0) (v := .ref gS) (C := "PermitRules$Book") (T := T_Book) (N := 11) hx hb htb in_Book hown hK hP 0 rfl rfl 4 (by decide) (htb _ mb_153) (fun _ h9 => h9) rfl d_Book_addClause_37 ?_
          refine lv_iload_n hx hb d_Book_addClause_40 rfl (lv_at hl 0 rfl) ?_
          refine lv_iload_n hx hb d_Book_addClause_41 rfl (lv_at hl 2 rfl) ?_
          refine va_iast hx hb hK hP hD hS 4 1 rfl rfl (oi_in (N := 30) (by decide) c_1 c_4) d_Book_addClause_42 (fun H locs hP hD hS => ?_)
          have hP : va_P (dC, dI) vwCl [(oB, .inr (0, [.ref gN, .ref gD, .ref gC, .int rc, .ref gS, .ref gL, .ref gR, .int cc_, .ref gK, .ref gW, .int sc])), (gN, .inl (cJ, 12, .inr (.inl bn))), (gD, .inl (cJ, 12, .inr (.inl bd))), (gC, .inl (cI, 12, .inl bc)), (gS, .inl (cI, 30, .inl (upd bs cc_.toNatClampNeg sg))), (gL, .inl (cI, 30, .inl bl)), (gR, .inl (cI, 30, .inl br)), (gK, .inl (cI, 120, .inl bk)), (gW, .inl (cJ, 120, .inr (.inl bw)))] H := hP
          have hD : va_D A [(oB, .inr (0, [.ref gN, .ref gD, .ref gC, .int rc, .ref gS, .ref gL, .ref gR, .int cc_, .ref gK, .ref gW, .int sc])), (gN, .inl (cJ, 12, .inr (.inl bn))), (gD, .inl (cJ, 12, .inr (.inl bd))), (gC, .inl (cI, 12, .inl bc)), (gS, .inl (cI, 30, .inl (upd bs cc_.toNatClampNeg sg))), (gL, .inl (cI, 30, .inl bl)), (gR, .inl (cI, 30, .inl br)), (gK, .inl (cI, 120, .inl bk)), (gW, .inl (cJ, 120, .inr (.inl bw)))] := hD
          refine lv_aload_n hx hb d_Book_addClause_43 rfl (lv_at hl 1 rfl) ?_
          refine va_get (D := (dC, dI)) (ci := 0) (v := .ref gL) (C := "PermitRules$Book") (T := T_Book) (N := 11) hx hb htb in_Book hown hK hP 0 rfl rfl 5 (by decide) (htb _ mb_154) (fun _ h9 => h9) rfl d_Book_addClause_44 ?_
          refine lv_iload_n hx hb d_Book_addClause_47 rfl (lv_at hl 0 rfl) ?_
          refine lv_iload_n hx hb d_Book_addClause_48 rfl (lv_at hl 3 rfl) ?_
          refine va_iast hx hb hK hP hD hS 5 1 rfl rfl (oi_in (N := 30) (by decide) c_1 c_4) d_Book_addClause_49 (fun H locs hP hD hS => ?_)
          have hP : va_P (dC, dI) vwCl [(oB, .inr (0, [.ref gN, .ref gD, .ref gC, .int rc, .ref gS, .ref gL, .ref gR, .int cc_, .ref gK, .ref gW, .int sc])), (gN, .inl (cJ, 12, .inr (.inl bn))), (gD, .inl (cJ, 12, .inr (.inl bd))), (gC, .inl (cI, 12, .inl bc)), (gS, .inl (cI, 30, .inl (upd bs cc_.toNatClampNeg sg))), (gL, .inl (cI, 30, .inl (upd bl cc_.toNatClampNeg bh))), (gR, .inl (cI, 30, .inl br)), (gK, .inl (cI, 120, .inl bk)), (gW, .inl (cJ, 120, .inr (.inl bw)))] H := hP
          have hD : va_D A [(oB, .inr (0, [.ref gN, .ref gD, .ref gC, .int rc, .ref gS, .ref gL, .ref gR, .int cc_, .ref gK, .ref gW, .int sc])), (gN, .inl (cJ, 12, .inr (.inl bn))), (gD, .inl (cJ, 12, .inr (.inl bd))), (gC, .inl (cI, 12, .inl bc)), (gS, .inl (cI, 30, .inl (upd bs cc_.toNatClampNeg sg))), (gL, .inl (cI, 30, .inl (upd bl cc_.toNatClampNeg bh))), (gR, .inl (cI, 30, .inl br)), (gK, .inl (cI, 120, .inl bk)), (gW, .inl (cJ, 120, .inr (.inl bw)))] := hD
          refine lv_aload_n hx hb d_Book_addClause_50 rfl (lv_at hl 1 rfl) ?_
          refine va_get (D := (dC, dI)) (ci := 0) (v := .ref gR) (C := "PermitRules$Book") (T := T_Book) (N := 11) hx hb htb in_Book hown hK hP 0 rfl rfl 6 (by decide) (htb _ mb_155) (fun _ h9 => h9) rfl d_Book_addClause_51 ?_
          refine lv_iload_n hx hb d_Book_addClause_54 rfl (lv_at hl 0 rfl) ?_
          refine lv_aload_n hx hb d_Book_addClause_55 rfl (lv_at hl 1 rfl) ?_
          refine va_get (D := (dC, dI)) (ci := 0) (v := .int sc) (C := "PermitRules$Book") (T := T_Book) (N := 11) hx hb htb in_Book hown hK hP 0 rfl rfl 10 (by decide) (htb _ mb_160) (fun _ h9 => h9) rfl d_Book_addClause_56 ?_
          refine va_iast hx hb hK hP hD hS 6 1 rfl rfl (oi_in (N := 30) (by decide) c_1 c_4) d_Book_addClause_59 (fun H locs hP hD hS => ?_)
          have hP : va_P (dC, dI) vwCl [(oB, .inr (0, [.ref gN, .ref gD, .ref gC, .int rc, .ref gS, .ref gL, .ref gR, .int cc_, .ref gK, .ref gW, .int sc])), (gN, .inl (cJ, 12, .inr (.inl bn))), (gD, .inl (cJ, 12, .inr (.inl bd))), (gC, .inl (cI, 12, .inl bc)), (gS, .inl (cI, 30, .inl (upd bs cc_.toNatClampNeg sg))), (gL, .inl (cI, 30, .inl (upd bl cc_.toNatClampNeg bh))), (gR, .inl (cI, 30, .inl (upd br cc_.toNatClampNeg sc))), (gK, .inl (cI, 120, .inl bk)), (gW, .inl (cJ, 120, .inr (.inl bw)))] H := hP
          have hD : va_D A [(oB, .inr (0, [.ref gN, .ref gD, .ref gC, .int rc, .ref gS, .ref gL, .ref gR, .int cc_, .ref gK, .ref gW, .int sc])), (gN, .inl (cJ, 12, .inr (.inl bn))), (gD, .inl (cJ, 12, .inr (.inl bd))), (gC, .inl (cI, 12, .inl bc)), (gS, .inl (cI, 30, .inl (upd bs cc_.toNatClampNeg sg))), (gL, .inl (cI, 30, .inl (upd bl cc_.toNatClampNeg bh))), (gR, .inl (cI, 30, .inl (upd br cc_.toNatClampNeg sc))), (gK, .inl (cI, 120, .inl bk)), (gW, .inl (cJ, 120, .inr (.inl bw)))] := hD
          refine lv_aload_n hx hb d_Book_addClause_60 rfl (lv_at hl 1 rfl) ?_
          refine lv_dup hx hb d_Book_addClause_61 rfl ?_
          refine va_get (D := (dC, dI)) (ci := 0) (v := .int cc_) (C := "PermitRules$Book") (T := T_Book) (N := 11) hx hb htb in_Book hown hK hP 0 rfl rfl 7 (by decide) (htb _ mb_156) (fun _ h9 => h9) rfl d_Book_addClause_62 ?_
          refine lv_iconst (v := 1) hx hb d_Book_addClause_65 (by decide) ?_
          refine lv_iadd hx hb d_Book_addClause_66 ?_
          refine va_put (D := (dC, dI)) (ci := 0) (v := .int (cc_ + 1)) (ty := .int) (C := "PermitRules$Book") (T := T_Book) (N := 11) hx hb htb in_Book ty_Book to_Book nm_Book hown hK hP hD hS 0 rfl rfl 7 (by decide) (htb _ mb_156) (fun _ h9 => h9) rfl (by decide +kernel) rfl rfl (Nat.le_of_ble_eq_true rfl) d_Book_addClause_67 (fun H locs hP hD hS => ?_)
          have hP : va_P (dC, dI) vwCl [(oB, .inr (0, [.ref gN, .ref gD, .ref gC, .int rc, .ref gS, .ref gL, .ref gR, .int (cc_ + 1), .ref gK, .ref gW, .int sc])), (gN, .inl (cJ, 12, .inr (.inl bn))), (gD, .inl (cJ, 12, .inr (.inl bd))), (gC, .inl (cI, 12, .inl bc)), (gS, .inl (cI, 30, .inl (upd bs cc_.toNatClampNeg sg))), (gL, .inl (cI, 30, .inl (upd bl cc_.toNatClampNeg bh))), (gR, .inl (cI, 30, .inl (upd br cc_.toNatClampNeg sc))), (gK, .inl (cI, 120, .inl bk)), (gW, .inl (cJ, 120, .inr (.inl bw)))] H := hP
          have hD : va_D A [(oB, .inr (0, [.ref gN, .ref gD, .ref gC, .int rc, .ref gS, .ref gL, .ref gR, .int (cc_ + 1), .ref gK, .ref gW, .int sc])), (gN, .inl (cJ, 12, .inr (.inl bn))), (gD, .inl (cJ, 12, .inr (.inl bd))), (gC, .inl (cI, 12, .inl bc)), (gS, .inl (cI, 30, .inl (upd bs cc_.toNatClampNeg sg))), (gL, .inl (cI, 30, .inl (upd bl cc_.toNatClampNeg bh))), (gR, .inl (cI, 30, .inl (upd br cc_.toNatClampNeg sc))), (gK, .inl (cI, 120, .inl bk)), (gW, .inl (cJ, 120, .inr (.inl bw)))] := hD
          have hP9 := hP.sub (ws' := [(oB, .inr (0, [.ref gN, .ref gD, .ref gC, .int rc, .ref gS, .ref gL, .ref gR, .int (cc_ + 1), .ref gK, .ref gW, .int sc])), (gN, .inl (cJ, 12, .inr (.inl bn))), (gD, .inl (cJ, 12, .inr (.inl bd))), (gC, .inl (cI, 12, .inl bc)), (gS, .inl (cI, 30, .inl (upd bs cc_.toNatClampNeg sg))), (gL, .inl (cI, 30, .inl (upd bl cc_.toNatClampNeg bh))), (gR, .inl (cI, 30, .inl (upd br cc_.toNatClampNeg sc))), (gK, .inl (cI, 120, .inl bk)), (gW, .inl (cJ, 120, .inr (.inl bw)))]) [0, 1, 2, 3, 4, 5, 6, 7, 8] rfl
          have hD9 := hD.sub (ws' := [(oB, .inr (0, [.ref gN, .ref gD, .ref gC, .int rc, .ref gS, .ref gL, .ref gR, .int (cc_ + 1), .ref gK, .ref gW, .int sc])), (gN, .inl (cJ, 12, .inr (.inl bn))), (gD, .inl (cJ, 12, .inr (.inl bd))), (gC, .inl (cI, 12, .inl bc)), (gS, .inl (cI, 30, .inl (upd bs cc_.toNatClampNeg sg))), (gL, .inl (cI, 30, .inl (upd bl cc_.toNatClampNeg bh))), (gR, .inl (cI, 30, .inl (upd br cc_.toNatClampNeg sc))), (gK, .inl (cI, 120, .inl bk)), (gW, .inl (cJ, 120, .inr (.inl bw)))]) [0, 1, 2, 3, 4, 5, 6, 7, 8] (by decide) rfl
          exact W.vret hx hb hr (fun t ht hW => ⟨⟨(cc_ + 1, upd bs cc_.toNatClampNeg sg, upd bl cc_.toNatClampNeg bh, upd br cc_.toNatClampNeg sc), rfl, by rw [hF], by rw [ht]; exact hP9, hD9⟩, hS.F ht⟩) hS.2.2 d_Book_addClause_70
def f_Book_addStep (kd : Int32) (wo : Int64) (sc : Int32) (bk : (Nat → Int32)) (bw : (Nat → Int64)) : Int32 × (Nat → Int32) × (Nat → Int64) := (if sc < 0 then (sc, bk, bw) else (if 120 ≤ sc then (sc, bk, bw) else (if 120 ≤ sc then (sc, bk, bw) else (sc + 1, upd bk sc.toNatClampNeg kd, vp_updL bw sc.toNatClampNeg wo))))
abbrev q_Book_addStep (dC : Nat → ClassId) (dI : Nat → Nat → Nat) (cB cI cJ : ClassId) (oB gN gD gC gS gL gR gK gW : Nat) (kd : Int32) (wo : Int64) (rc : Int32) (cc_ : Int32) (sc : Int32) (bn : (Nat → Int64)) (bd : (Nat → Int64)) (bc : (Nat → Int32)) (bs : (Nat → Int32)) (bl : (Nat → Int32)) (br : (Nat → Int32)) (bk : (Nat → Int32)) (bw : (Nat → Int64)) (A : Nat → Prop) : Array Value → State → Outcome → State → Prop := va_Qv (fun u : Int32 × (Nat → Int32) × (Nat → Int64) => u = f_Book_addStep kd wo sc bk bw) (fun u t => va_P (dC, dI) vwCl [(oB, .inr (0, [.ref gN, .ref gD, .ref gC, .int rc, .ref gS, .ref gL, .ref gR, .int cc_, .ref gK, .ref gW, .int u.1])), (gN, .inl (cJ, 12, .inr (.inl bn))), (gD, .inl (cJ, 12, .inr (.inl bd))), (gC, .inl (cI, 12, .inl bc)), (gS, .inl (cI, 30, .inl bs)), (gL, .inl (cI, 30, .inl bl)), (gR, .inl (cI, 30, .inl br)), (gK, .inl (cI, 120, .inl u.2.1)), (gW, .inl (cJ, 120, .inr (.inl u.2.2)))] t.heap ∧ va_D A [(oB, .inr (0, [.ref gN, .ref gD, .ref gC, .int rc, .ref gS, .ref gL, .ref gR, .int cc_, .ref gK, .ref gW, .int u.1])), (gN, .inl (cJ, 12, .inr (.inl bn))), (gD, .inl (cJ, 12, .inr (.inl bd))), (gC, .inl (cI, 12, .inl bc)), (gS, .inl (cI, 30, .inl bs)), (gL, .inl (cI, 30, .inl bl)), (gR, .inl (cI, 30, .inl br)), (gK, .inl (cI, 120, .inl u.2.1)), (gW, .inl (cJ, 120, .inr (.inl u.2.2)))]) A
set_option maxHeartbeats 4000000 in
set_option maxRecDepth 100000 in
theorem c_Book_addStep (l : Launch) (dC : Nat → ClassId) (dI : Nat → Nat → Nat) (cB cI cJ : ClassId) (oB gN gD gC gS gL gR gK gW : Nat) (sz : Nat) (kd : Int32) (wo : Int64) (rc : Int32) (cc_ : Int32) (sc : Int32) (bn : (Nat → Int64)) (bd : (Nat → Int64)) (bc : (Nat → Int32)) (bs : (Nat → Int32)) (bl : (Nat → Int32)) (br : (Nat → Int32)) (bk : (Nat → Int32)) (bw : (Nat → Int64)) : Met l y_Book_addStep (cw_Book_addStep :: bgw) { frames := 0, cells := 0, slots := 0, locals := 0 } (va_Pc [.ref oB, .int kd, .long wo] (kb_B dC dI cB cI cJ [(oB, .inr (0, [.ref gN, .ref gD, .ref gC, .int rc, .ref gS, .ref gL, .ref gR, .int cc_, .ref gK, .ref gW, .int sc])), (gN, .inl (cJ, 12, .inr (.inl bn))), (gD, .inl (cJ, 12, .inr (.inl bd))), (gC, .inl (cI, 12, .inl bc)), (gS, .inl (cI, 30, .inl bs)), (gL, .inl (cI, 30, .inl bl)), (gR, .inl (cI, 30, .inl br)), (gK, .inl (cI, 120, .inl bk)), (gW, .inl (cJ, 120, .inr (.inl bw)))] sz)) (q_Book_addStep dC dI cB cI cJ oB gN gD gC gS gL gR gK gW kd wo rc cc_ sc bn bd bc bs bl br bk bw (va_A [(oB, .inr (0, [.ref gN, .ref gD, .ref gC, .int rc, .ref gS, .ref gL, .ref gR, .int cc_, .ref gK, .ref gW, .int sc])), (gN, .inl (cJ, 12, .inr (.inl bn))), (gD, .inl (cJ, 12, .inr (.inl bd))), (gC, .inl (cI, 12, .inl bc)), (gS, .inl (cI, 30, .inl bs)), (gL, .inl (cI, 30, .inl bl)), (gR, .inl (cI, 30, .inl br)), (gK, .inl (cI, 120, .inl bk)), (gW, .inl (cJ, 120, .inr (.inl bw)))] sz)) 0 0 (va_A [(oB, .inr (0, [.ref gN, .ref gD, .ref gC, .int rc, .ref gS, .ref gL, .ref gR, .int cc_, .ref gK, .ref gW, .int sc])), (gN, .inl (cJ, 12, .inr (.inl bn))), (gD, .inl (cJ, 12, .inr (.inl bd))), (gC, .inl (cI, 12, .inl bc)), (gS, .inl (cI, 30, .inl bs)), (gL, .inl (cI, 30, .inl bl)), (gR, .inl (cI, 30, .inl br)), (gK, .inl (cI, 120, .inl bk)), (gW, .inl (cJ, 120, .inr (.inl bw)))] sz) := by
  refine Met.ofW (cc := prog_2_method_7_code) (maxL := 5) (ret := none) (by decide) rfl ?_
  intro p e s m args below meth c s₁ B hml hv
  obtain ⟨rfl, hsz, hP, hKx, hD0⟩ := hv
  have hx := B.exec
  have hb := B.bytes
  have hr := B.returns
  have hts := atoms_spec (ws := (cw_Book_addStep :: bgw)) B.pre
  have hown : s.vm.findClass "PermitRules$Book" = some m.cls := findClass_of_methodNamed B.named
  have hlocks := B.notSynchronized
  have htb := fun (w : Cond) (h : w ∈ bgw) => hts w (List.mem_cons_of_mem _ h)
  have hK := hKx.1
  subst hsz
  have hD := hD0.self (sz := s.heap.size)
  generalize hAe : va_A [(oB, .inr (0, [.ref gN, .ref gD, .ref gC, .int rc, .ref gS, .ref gL, .ref gR, .int cc_, .ref gK, .ref gW, .int sc])), (gN, .inl (cJ, 12, .inr (.inl bn))), (gD, .inl (cJ, 12, .inr (.inl bd))), (gC, .inl (cI, 12, .inl bc)), (gS, .inl (cI, 30, .inl bs)), (gL, .inl (cI, 30, .inl bl)), (gR, .inl (cI, 30, .inl br)), (gK, .inl (cI, 120, .inl bk)), (gW, .inl (cJ, 120, .inr (.inl bw)))] s.heap.size = A at hD ⊢
  have hA : ∀ q : Nat, s.heap.size ≤ q → A q := fun q h => by rw [← hAe]; exact Or.inr h
  have hS : va_S A s.heap s.heap [] := va_S.rf
  have hl := lv_entry ([.ref oB, .int kd, .long wo]) (n := 5) (Nat.le_of_ble_eq_true rfl)
  rw [lg_entry_eq]
  generalize (lg_sl ([.ref oB, .int kd, .long wo]) ++ List.replicate (5 - (lg_sl ([.ref oB, .int kd, .long wo])).length) Slot.unset).toArray = ls at hl ⊢
  have hl : lv_has ls 5 [(0, .ref oB), (1, .int kd), (2, .long wo)] := hl
  have hP : va_P (dC, dI) vwCl [(oB, .inr (0, [.ref gN, .ref gD, .ref gC, .int rc, .ref gS, .ref gL, .ref gR, .int cc_, .ref gK, .ref gW, .int sc])), (gN, .inl (cJ, 12, .inr (.inl bn))), (gD, .inl (cJ, 12, .inr (.inl bd))), (gC, .inl (cI, 12, .inl bc)), (gS, .inl (cI, 30, .inl bs)), (gL, .inl (cI, 30, .inl bl)), (gR, .inl (cI, 30, .inl br)), (gK, .inl (cI, 120, .inl bk)), (gW, .inl (cJ, 120, .inr (.inl bw)))] s.heap := hP
  have hF : f_Book_addStep kd wo sc bk bw = (if sc < 0 then (sc, bk, bw) else (if 120 ≤ sc then (sc, bk, bw) else (if 120 ≤ sc then (sc, bk, bw) else (sc + 1, upd bk sc.toNatClampNeg kd, vp_updL bw sc.toNatClampNeg wo)))) := rfl
  refine lv_aload_n hx hb d_Book_addStep_0 rfl (lv_at hl 0 rfl) ?_
  refine va_get (D := (dC, dI)) (ci := 0) (v := .int sc) (C := "PermitRules$Book") (T := T_Book) (N := 11) hx hb htb in_Book hown hK hP 0 rfl rfl 10 (by decide) (htb _ mb_160) (fun _ h9 => h9) rfl d_Book_addStep_1 ?_
  refine lv_istore (lv' := [(4, .int sc), (0, .ref oB), (1, .int kd), (2, .long wo)]) hx hb d_Book_addStep_4 hl (by decide) rfl (fun ls hl => ?_)
  refine lv_iload hx hb d_Book_addStep_6 (lv_at hl 0 rfl) ?_
  refine lv_if_lt (tgt := 57) hx hb d_Book_addStep_8 (by decide) (fun c_1 => ?_) (fun c_1 => ?_)
  · have hF := hF.trans (if_pos c_1)
    have hP9 := hP.sub (ws' := [(oB, .inr (0, [.ref gN, .ref gD, .ref gC, .int rc, .ref gS, .ref gL, .ref gR, .int cc_, .ref gK, .ref gW, .int sc])), (gN, .inl (cJ, 12, .inr (.inl bn))), (gD, .inl (cJ, 12, .inr (.inl bd))), (gC, .inl (cI, 12, .inl bc)), (gS, .inl (cI, 30, .inl bs)), (gL, .inl (cI, 30, .inl bl)), (gR, .inl (cI, 30, .inl br)), (gK, .inl (cI, 120, .inl bk)), (gW, .inl (cJ, 120, .inr (.inl bw)))]) [0, 1, 2, 3, 4, 5, 6, 7, 8] rfl
    have hD9 := hD.sub (ws' := [(oB, .inr (0, [.ref gN, .ref gD, .ref gC, .int rc, .ref gS, .ref gL, .ref gR, .int cc_, .ref gK, .ref gW, .int sc])), (gN, .inl (cJ, 12, .inr (.inl bn))), (gD, .inl (cJ, 12, .inr (.inl bd))), (gC, .inl (cI, 12, .inl bc)), (gS, .inl (cI, 30, .inl bs)), (gL, .inl (cI, 30, .inl bl)), (gR, .inl (cI, 30, .inl br)), (gK, .inl (cI, 120, .inl bk)), (gW, .inl (cJ, 120, .inr (.inl bw)))]) [0, 1, 2, 3, 4, 5, 6, 7, 8] (by decide) rfl
    exact W.vret hx hb hr (fun t ht hW => ⟨⟨(sc, bk, bw), rfl, by rw [hF], by rw [ht]; exact hP9, hD9⟩, hS.F ht⟩) hS.2.2 d_Book_addStep_57
  · have hF := hF.trans (if_neg c_1)
    refine lv_iload hx hb d_Book_addStep_11 (lv_at hl 0 rfl) ?_
    refine lv_aload_n hx hb d_Book_addStep_13 rfl (lv_at hl 1 rfl) ?_
    refine va_get (D := (dC, dI)) (ci := 0) (v := .ref gK) (C := "PermitRules$Book") (T := T_Book) (N := 11) hx hb htb in_Book hown hK hP 0 rfl rfl 8 (by decide) (htb _ mb_158) (fun _ h9 => h9) rfl d_Book_addStep_14 ?_
    refine va_alen (v := 120) hx hb hK hP 7 1 rfl rfl (by rfl) d_Book_addStep_17 ?_
    refine lv_icmp_ge (tgt := 57) hx hb d_Book_addStep_18 (by decide) (fun c_2 => ?_) (fun c_2 => ?_)
    · have hF := hF.trans (if_pos c_2)
      have hP9 := hP.sub (ws' := [(oB, .inr (0, [.ref gN, .ref gD, .ref gC, .int rc, .ref gS, .ref gL, .ref gR, .int cc_, .ref gK, .ref gW, .int sc])), (gN, .inl (cJ, 12, .inr (.inl bn))), (gD, .inl (cJ, 12, .inr (.inl bd))), (gC, .inl (cI, 12, .inl bc)), (gS, .inl (cI, 30, .inl bs)), (gL, .inl (cI, 30, .inl bl)), (gR, .inl (cI, 30, .inl br)), (gK, .inl (cI, 120, .inl bk)), (gW, .inl (cJ, 120, .inr (.inl bw)))]) [0, 1, 2, 3, 4, 5, 6, 7, 8] rfl
      have hD9 := hD.sub (ws' := [(oB, .inr (0, [.ref gN, .ref gD, .ref gC, .int rc, .ref gS, .ref gL, .ref gR, .int cc_, .ref gK, .ref gW, .int sc])), (gN, .inl (cJ, 12, .inr (.inl bn))), (gD, .inl (cJ, 12, .inr (.inl bd))), (gC, .inl (cI, 12, .inl bc)), (gS, .inl (cI, 30, .inl bs)), (gL, .inl (cI, 30, .inl bl)), (gR, .inl (cI, 30, .inl br)), (gK, .inl (cI, 120, .inl bk)), (gW, .inl (cJ, 120, .inr (.inl bw)))]) [0, 1, 2, 3, 4, 5, 6, 7, 8] (by decide) rfl
      exact W.vret hx hb hr (fun t ht hW => ⟨⟨(sc, bk, bw), rfl, by rw [hF], by rw [ht]; exact hP9, hD9⟩, hS.F ht⟩) hS.2.2 d_Book_addStep_57
    · have hF := hF.trans (if_neg c_2)
      refine lv_iload hx hb d_Book_addStep_21 (lv_at hl 0 rfl) ?_
      refine lv_aload_n hx hb d_Book_addStep_23 rfl (lv_at hl 1 rfl) ?_
      refine va_get (D := (dC, dI)) (ci := 0) (v := .ref gW) (C := "PermitRules$Book") (T := T_Book) (N := 11) hx hb htb in_Book hown hK hP 0 rfl rfl 9 (by decide) (htb _ mb_159) (fun _ h9 => h9) rfl d_Book_addStep_24 ?_
      refine va_alen (v := 120) hx hb hK hP 8 2 rfl rfl (by rfl) d_Book_addStep_27 ?_
      refine lv_icmp_ge (tgt := 57) hx hb d_Book_addStep_28 (by decide) (fun c_3 => ?_) (fun c_3 => ?_)
      · have hF := hF.trans (if_pos c_3)
        have hP9 := hP.sub (ws' := [(oB, .inr (0, [.ref gN, .ref gD, .ref gC, .int rc, .ref gS, .ref gL, .ref gR, .int cc_, .ref gK, .ref gW, .int sc])), (gN, .inl (cJ, 12, .inr (.inl bn))), (gD, .inl (cJ, 12, .inr (.inl bd))), (gC, .inl (cI, 12, .inl bc)), (gS, .inl (cI, 30, .inl bs)), (gL, .inl (cI, 30, .inl bl)), (gR, .inl (cI, 30, .inl br)), (gK, .inl (cI, 120, .inl bk)), (gW, .inl (cJ, 120, .inr (.inl bw)))]) [0, 1, 2, 3, 4, 5, 6, 7, 8] rfl
        have hD9 := hD.sub (ws' := [(oB, .inr (0, [.ref gN, .ref gD, .ref gC, .int rc, .ref gS, .ref gL, .ref gR, .int cc_, .ref gK, .ref gW, .int sc])), (gN, .inl (cJ, 12, .inr (.inl bn))), (gD, .inl (cJ, 12, .inr (.inl bd))), (gC, .inl (cI, 12, .inl bc)), (gS, .inl (cI, 30, .inl bs)), (gL, .inl (cI, 30, .inl bl)), (gR, .inl (cI, 30, .inl br)), (gK, .inl (cI, 120, .inl bk)), (gW, .inl (cJ, 120, .inr (.inl bw)))]) [0, 1, 2, 3, 4, 5, 6, 7, 8] (by decide) rfl
        exact W.vret hx hb hr (fun t ht hW => ⟨⟨(sc, bk, bw), rfl, by rw [hF], by rw [ht]; exact hP9, hD9⟩, hS.F ht⟩) hS.2.2 d_Book_addStep_57
      · have hF := hF.trans (if_neg c_3)
        refine lv_aload_n hx hb d_Book_addStep_31 rfl (lv_at hl 1 rfl) ?_
        refine va_get (D := (dC, dI)) (ci := 0) (v := .ref gK) (C := "PermitRules$Book") (T := T_Book) (N := 11) hx hb htb in_Book hown hK hP 0 rfl rfl 8 (by decide) (htb _ mb_158) (fun _ h9 => h9) rfl d_Book_addStep_32 ?_
        refine lv_iload hx hb d_Book_addStep_35 (lv_at hl 0 rfl) ?_
        refine lv_iload_n hx hb d_Book_addStep_37 rfl (lv_at hl 2 rfl) ?_
        refine va_iast hx hb hK hP hD hS 7 1 rfl rfl (oi_in (N := 120) (by decide) c_1 c_3) d_Book_addStep_38 (fun H locs hP hD hS => ?_)
        have hP : va_P (dC, dI) vwCl [(oB, .inr (0, [.ref gN, .ref gD, .ref gC, .int rc, .ref gS, .ref gL, .ref gR, .int cc_, .ref gK, .ref gW, .int sc])), (gN, .inl (cJ, 12, .inr (.inl bn))), (gD, .inl (cJ, 12, .inr (.inl bd))), (gC, .inl (cI, 12, .inl bc)), (gS, .inl (cI, 30, .inl bs)), (gL, .inl (cI, 30, .inl bl)), (gR, .inl (cI, 30, .inl br)), (gK, .inl (cI, 120, .inl (upd bk sc.toNatClampNeg kd))), (gW, .inl (cJ, 120, .inr (.inl bw)))] H := hP
        have hD : va_D A [(oB, .inr (0, [.ref gN, .ref gD, .ref gC, .int rc, .ref gS, .ref gL, .ref gR, .int cc_, .ref gK, .ref gW, .int sc])), (gN, .inl (cJ, 12, .inr (.inl bn))), (gD, .inl (cJ, 12, .inr (.inl bd))), (gC, .inl (cI, 12, .inl bc)), (gS, .inl (cI, 30, .inl bs)), (gL, .inl (cI, 30, .inl bl)), (gR, .inl (cI, 30, .inl br)), (gK, .inl (cI, 120, .inl (upd bk sc.toNatClampNeg kd))), (gW, .inl (cJ, 120, .inr (.inl bw)))] := hD
        refine lv_aload_n hx hb d_Book_addStep_39 rfl (lv_at hl 1 rfl) ?_
        refine va_get (D := (dC, dI)) (ci := 0) (v := .ref gW) (C := "PermitRules$Book") (T := T_Book) (N := 11) hx hb htb in_Book hown hK hP 0 rfl rfl 9 (by decide) (htb _ mb_159) (fun _ h9 => h9) rfl d_Book_addStep_40 ?_
        refine lv_iload hx hb d_Book_addStep_43 (lv_at hl 0 rfl) ?_
        refine lv_lload_n hx hb d_Book_addStep_45 rfl (lv_at hl 3 rfl) ?_
        refine va_last hx hb hK hP hD hS 8 2 rfl rfl (oi_in (N := 120) (by decide) c_1 c_3) d_Book_addStep_46 (fun H locs hP hD hS => ?_)
        have hP : va_P (dC, dI) vwCl [(oB, .inr (0, [.ref gN, .ref gD, .ref gC, .int rc, .ref gS, .ref gL, .ref gR, .int cc_, .ref gK, .ref gW, .int sc])), (gN, .inl (cJ, 12, .inr (.inl bn))), (gD, .inl (cJ, 12, .inr (.inl bd))), (gC, .inl (cI, 12, .inl bc)), (gS, .inl (cI, 30, .inl bs)), (gL, .inl (cI, 30, .inl bl)), (gR, .inl (cI, 30, .inl br)), (gK, .inl (cI, 120, .inl (upd bk sc.toNatClampNeg kd))), (gW, .inl (cJ, 120, .inr (.inl (vp_updL bw sc.toNatClampNeg wo))))] H := hP
        have hD : va_D A [(oB, .inr (0, [.ref gN, .ref gD, .ref gC, .int rc, .ref gS, .ref gL, .ref gR, .int cc_, .ref gK, .ref gW, .int sc])), (gN, .inl (cJ, 12, .inr (.inl bn))), (gD, .inl (cJ, 12, .inr (.inl bd))), (gC, .inl (cI, 12, .inl bc)), (gS, .inl (cI, 30, .inl bs)), (gL, .inl (cI, 30, .inl bl)), (gR, .inl (cI, 30, .inl br)), (gK, .inl (cI, 120, .inl (upd bk sc.toNatClampNeg kd))), (gW, .inl (cJ, 120, .inr (.inl (vp_updL bw sc.toNatClampNeg wo))))] := hD
        refine lv_aload_n hx hb d_Book_addStep_47 rfl (lv_at hl 1 rfl) ?_
        refine lv_dup hx hb d_Book_addStep_48 rfl ?_
        refine va_get (D := (dC, dI)) (ci := 0) (v := .int sc) (C := "PermitRules$Book") (T := T_Book) (N := 11) hx hb htb in_Book hown hK hP 0 rfl rfl 10 (by decide) (htb _ mb_160) (fun _ h9 => h9) rfl d_Book_addStep_49 ?_
        refine lv_iconst (v := 1) hx hb d_Book_addStep_52 (by decide) ?_
        refine lv_iadd hx hb d_Book_addStep_53 ?_
        refine va_put (D := (dC, dI)) (ci := 0) (v := .int (sc + 1)) (ty := .int) (C := "PermitRules$Book") (T := T_Book) (N := 11) hx hb htb in_Book ty_Book to_Book nm_Book hown hK hP hD hS 0 rfl rfl 10 (by decide) (htb _ mb_160) (fun _ h9 => h9) rfl (by decide +kernel) rfl rfl (Nat.le_of_ble_eq_true rfl) d_Book_addStep_54 (fun H locs hP hD hS => ?_)
        have hP : va_P (dC, dI) vwCl [(oB, .inr (0, [.ref gN, .ref gD, .ref gC, .int rc, .ref gS, .ref gL, .ref gR, .int cc_, .ref gK, .ref gW, .int (sc + 1)])), (gN, .inl (cJ, 12, .inr (.inl bn))), (gD, .inl (cJ, 12, .inr (.inl bd))), (gC, .inl (cI, 12, .inl bc)), (gS, .inl (cI, 30, .inl bs)), (gL, .inl (cI, 30, .inl bl)), (gR, .inl (cI, 30, .inl br)), (gK, .inl (cI, 120, .inl (upd bk sc.toNatClampNeg kd))), (gW, .inl (cJ, 120, .inr (.inl (vp_updL bw sc.toNatClampNeg wo))))] H := hP
        have hD : va_D A [(oB, .inr (0, [.ref gN, .ref gD, .ref gC, .int rc, .ref gS, .ref gL, .ref gR, .int cc_, .ref gK, .ref gW, .int (sc + 1)])), (gN, .inl (cJ, 12, .inr (.inl bn))), (gD, .inl (cJ, 12, .inr (.inl bd))), (gC, .inl (cI, 12, .inl bc)), (gS, .inl (cI, 30, .inl bs)), (gL, .inl (cI, 30, .inl bl)), (gR, .inl (cI, 30, .inl br)), (gK, .inl (cI, 120, .inl (upd bk sc.toNatClampNeg kd))), (gW, .inl (cJ, 120, .inr (.inl (vp_updL bw sc.toNatClampNeg wo))))] := hD
        have hP9 := hP.sub (ws' := [(oB, .inr (0, [.ref gN, .ref gD, .ref gC, .int rc, .ref gS, .ref gL, .ref gR, .int cc_, .ref gK, .ref gW, .int (sc + 1)])), (gN, .inl (cJ, 12, .inr (.inl bn))), (gD, .inl (cJ, 12, .inr (.inl bd))), (gC, .inl (cI, 12, .inl bc)), (gS, .inl (cI, 30, .inl bs)), (gL, .inl (cI, 30, .inl bl)), (gR, .inl (cI, 30, .inl br)), (gK, .inl (cI, 120, .inl (upd bk sc.toNatClampNeg kd))), (gW, .inl (cJ, 120, .inr (.inl (vp_updL bw sc.toNatClampNeg wo))))]) [0, 1, 2, 3, 4, 5, 6, 7, 8] rfl
        have hD9 := hD.sub (ws' := [(oB, .inr (0, [.ref gN, .ref gD, .ref gC, .int rc, .ref gS, .ref gL, .ref gR, .int cc_, .ref gK, .ref gW, .int (sc + 1)])), (gN, .inl (cJ, 12, .inr (.inl bn))), (gD, .inl (cJ, 12, .inr (.inl bd))), (gC, .inl (cI, 12, .inl bc)), (gS, .inl (cI, 30, .inl bs)), (gL, .inl (cI, 30, .inl bl)), (gR, .inl (cI, 30, .inl br)), (gK, .inl (cI, 120, .inl (upd bk sc.toNatClampNeg kd))), (gW, .inl (cJ, 120, .inr (.inl (vp_updL bw sc.toNatClampNeg wo))))]) [0, 1, 2, 3, 4, 5, 6, 7, 8] (by decide) rfl
        exact W.vret hx hb hr (fun t ht hW => ⟨⟨(sc + 1, upd bk sc.toNatClampNeg kd, vp_updL bw sc.toNatClampNeg wo), rfl, by rw [hF], by rw [ht]; exact hP9, hD9⟩, hS.F ht⟩) hS.2.2 d_Book_addStep_57
def f_Book_dayOf (nu : Int32) (bd : (Nat → Int64)) : Int64 := (if nu < 0 then 0 else (if 12 ≤ nu then 0 else bd nu.toNatClampNeg))
abbrev q_Book_dayOf (dC : Nat → ClassId) (dI : Nat → Nat → Nat) (cB cI cJ : ClassId) (oB gN gD gC gS gL gR gK gW : Nat) (nu : Int32) (rc : Int32) (cc_ : Int32) (sc : Int32) (bn : (Nat → Int64)) (bd : (Nat → Int64)) (bc : (Nat → Int32)) (bs : (Nat → Int32)) (bl : (Nat → Int32)) (br : (Nat → Int32)) (bk : (Nat → Int32)) (bw : (Nat → Int64)) (A : Nat → Prop) : Array Value → State → Outcome → State → Prop := va_Ql (fun (r : Int64) (u : Unit) => r = f_Book_dayOf nu bd) (fun u t => va_P (dC, dI) vwCl [(oB, .inr (0, [.ref gN, .ref gD, .ref gC, .int rc, .ref gS, .ref gL, .ref gR, .int cc_, .ref gK, .ref gW, .int sc])), (gN, .inl (cJ, 12, .inr (.inl bn))), (gD, .inl (cJ, 12, .inr (.inl bd))), (gC, .inl (cI, 12, .inl bc)), (gS, .inl (cI, 30, .inl bs)), (gL, .inl (cI, 30, .inl bl)), (gR, .inl (cI, 30, .inl br)), (gK, .inl (cI, 120, .inl bk)), (gW, .inl (cJ, 120, .inr (.inl bw)))] t.heap ∧ va_D A [(oB, .inr (0, [.ref gN, .ref gD, .ref gC, .int rc, .ref gS, .ref gL, .ref gR, .int cc_, .ref gK, .ref gW, .int sc])), (gN, .inl (cJ, 12, .inr (.inl bn))), (gD, .inl (cJ, 12, .inr (.inl bd))), (gC, .inl (cI, 12, .inl bc)), (gS, .inl (cI, 30, .inl bs)), (gL, .inl (cI, 30, .inl bl)), (gR, .inl (cI, 30, .inl br)), (gK, .inl (cI, 120, .inl bk)), (gW, .inl (cJ, 120, .inr (.inl bw)))]) A
set_option maxHeartbeats 4000000 in
set_option maxRecDepth 100000 in
theorem c_Book_dayOf (l : Launch) (dC : Nat → ClassId) (dI : Nat → Nat → Nat) (cB cI cJ : ClassId) (oB gN gD gC gS gL gR gK gW : Nat) (sz : Nat) (nu : Int32) (rc : Int32) (cc_ : Int32) (sc : Int32) (bn : (Nat → Int64)) (bd : (Nat → Int64)) (bc : (Nat → Int32)) (bs : (Nat → Int32)) (bl : (Nat → Int32)) (br : (Nat → Int32)) (bk : (Nat → Int32)) (bw : (Nat → Int64)) : Met l y_Book_dayOf (cw_Book_dayOf :: bgw) { frames := 0, cells := 0, slots := 0, locals := 0 } (va_Pc [.ref oB, .int nu] (kb_B dC dI cB cI cJ [(oB, .inr (0, [.ref gN, .ref gD, .ref gC, .int rc, .ref gS, .ref gL, .ref gR, .int cc_, .ref gK, .ref gW, .int sc])), (gN, .inl (cJ, 12, .inr (.inl bn))), (gD, .inl (cJ, 12, .inr (.inl bd))), (gC, .inl (cI, 12, .inl bc)), (gS, .inl (cI, 30, .inl bs)), (gL, .inl (cI, 30, .inl bl)), (gR, .inl (cI, 30, .inl br)), (gK, .inl (cI, 120, .inl bk)), (gW, .inl (cJ, 120, .inr (.inl bw)))] sz)) (q_Book_dayOf dC dI cB cI cJ oB gN gD gC gS gL gR gK gW nu rc cc_ sc bn bd bc bs bl br bk bw (va_A [(oB, .inr (0, [.ref gN, .ref gD, .ref gC, .int rc, .ref gS, .ref gL, .ref gR, .int cc_, .ref gK, .ref gW, .int sc])), (gN, .inl (cJ, 12, .inr (.inl bn))), (gD, .inl (cJ, 12, .inr (.inl bd))), (gC, .inl (cI, 12, .inl bc)), (gS, .inl (cI, 30, .inl bs)), (gL, .inl (cI, 30, .inl bl)), (gR, .inl (cI, 30, .inl br)), (gK, .inl (cI, 120, .inl bk)), (gW, .inl (cJ, 120, .inr (.inl bw)))] sz)) 0 0 (va_A [(oB, .inr (0, [.ref gN, .ref gD, .ref gC, .int rc, .ref gS, .ref gL, .ref gR, .int cc_, .ref gK, .ref gW, .int sc])), (gN, .inl (cJ, 12, .inr (.inl bn))), (gD, .inl (cJ, 12, .inr (.inl bd))), (gC, .inl (cI, 12, .inl bc)), (gS, .inl (cI, 30, .inl bs)), (gL, .inl (cI, 30, .inl bl)), (gR, .inl (cI, 30, .inl br)), (gK, .inl (cI, 120, .inl bk)), (gW, .inl (cJ, 120, .inr (.inl bw)))] sz) := by
  refine Met.ofW (cc := prog_2_method_8_code) (maxL := 2) (ret := (some .long)) (by decide) rfl ?_
  intro p e s m args below meth c s₁ B hml hv
  obtain ⟨rfl, hsz, hP, hKx, hD0⟩ := hv
  have hx := B.exec
  have hb := B.bytes
  have hr := B.returns
  have hts := atoms_spec (ws := (cw_Book_dayOf :: bgw)) B.pre
  have hown : s.vm.findClass "PermitRules$Book" = some m.cls := findClass_of_methodNamed B.named
  have hlocks := B.notSynchronized
  have htb := fun (w : Cond) (h : w ∈ bgw) => hts w (List.mem_cons_of_mem _ h)
  have hK := hKx.1
  subst hsz
  have hD := hD0.self (sz := s.heap.size)
  generalize hAe : va_A [(oB, .inr (0, [.ref gN, .ref gD, .ref gC, .int rc, .ref gS, .ref gL, .ref gR, .int cc_, .ref gK, .ref gW, .int sc])), (gN, .inl (cJ, 12, .inr (.inl bn))), (gD, .inl (cJ, 12, .inr (.inl bd))), (gC, .inl (cI, 12, .inl bc)), (gS, .inl (cI, 30, .inl bs)), (gL, .inl (cI, 30, .inl bl)), (gR, .inl (cI, 30, .inl br)), (gK, .inl (cI, 120, .inl bk)), (gW, .inl (cJ, 120, .inr (.inl bw)))] s.heap.size = A at hD ⊢
  have hA : ∀ q : Nat, s.heap.size ≤ q → A q := fun q h => by rw [← hAe]; exact Or.inr h
  have hS : va_S A s.heap s.heap [] := va_S.rf
  have hl := lv_entry ([.ref oB, .int nu]) (n := 2) (Nat.le_of_ble_eq_true rfl)
  rw [lg_entry_eq]
  generalize (lg_sl ([.ref oB, .int nu]) ++ List.replicate (2 - (lg_sl ([.ref oB, .int nu])).length) Slot.unset).toArray = ls at hl ⊢
  have hl : lv_has ls 2 [(0, .ref oB), (1, .int nu)] := hl
  have hP : va_P (dC, dI) vwCl [(oB, .inr (0, [.ref gN, .ref gD, .ref gC, .int rc, .ref gS, .ref gL, .ref gR, .int cc_, .ref gK, .ref gW, .int sc])), (gN, .inl (cJ, 12, .inr (.inl bn))), (gD, .inl (cJ, 12, .inr (.inl bd))), (gC, .inl (cI, 12, .inl bc)), (gS, .inl (cI, 30, .inl bs)), (gL, .inl (cI, 30, .inl bl)), (gR, .inl (cI, 30, .inl br)), (gK, .inl (cI, 120, .inl bk)), (gW, .inl (cJ, 120, .inr (.inl bw)))] s.heap := hP
  have hF : f_Book_dayOf nu bd = (if nu < 0 then 0 else (if 12 ≤ nu then 0 else bd nu.toNatClampNeg)) := rfl
  refine lv_iload_n hx hb d_Book_dayOf_0 rfl (lv_at hl 1 rfl) ?_
  refine lv_if_lt (tgt := 22) hx hb d_Book_dayOf_1 (by decide) (fun c_1 => ?_) (fun c_1 => ?_)
  · have hF := hF.trans (if_pos c_1)
    refine lv_lconst (v := 0) hx hb d_Book_dayOf_22 (by decide) ?_
    have hP9 := hP.sub (ws' := [(oB, .inr (0, [.ref gN, .ref gD, .ref gC, .int rc, .ref gS, .ref gL, .ref gR, .int cc_, .ref gK, .ref gW, .int sc])), (gN, .inl (cJ, 12, .inr (.inl bn))), (gD, .inl (cJ, 12, .inr (.inl bd))), (gC, .inl (cI, 12, .inl bc)), (gS, .inl (cI, 30, .inl bs)), (gL, .inl (cI, 30, .inl bl)), (gR, .inl (cI, 30, .inl br)), (gK, .inl (cI, 120, .inl bk)), (gW, .inl (cJ, 120, .inr (.inl bw)))]) [0, 1, 2, 3, 4, 5, 6, 7, 8] rfl
    have hD9 := hD.sub (ws' := [(oB, .inr (0, [.ref gN, .ref gD, .ref gC, .int rc, .ref gS, .ref gL, .ref gR, .int cc_, .ref gK, .ref gW, .int sc])), (gN, .inl (cJ, 12, .inr (.inl bn))), (gD, .inl (cJ, 12, .inr (.inl bd))), (gC, .inl (cI, 12, .inl bc)), (gS, .inl (cI, 30, .inl bs)), (gL, .inl (cI, 30, .inl bl)), (gR, .inl (cI, 30, .inl br)), (gK, .inl (cI, 120, .inl bk)), (gW, .inl (cJ, 120, .inr (.inl bw)))]) [0, 1, 2, 3, 4, 5, 6, 7, 8] (by decide) rfl
    exact W.lret (v := (0 : Int64)) hx hb hr (fun t ht hW => ⟨⟨(0 : Int64), (), rfl, by rw [hF], by rw [ht]; exact hP9, hD9⟩, hS.F ht⟩) hS.2.2 d_Book_dayOf_23
  · have hF := hF.trans (if_neg c_1)
    refine lv_iload_n hx hb d_Book_dayOf_4 rfl (lv_at hl 1 rfl) ?_
    refine lv_aload_n hx hb d_Book_dayOf_5 rfl (lv_at hl 0 rfl) ?_
    refine va_get (D := (dC, dI)) (ci := 0) (v := .ref gD) (C := "PermitRules$Book") (T := T_Book) (N := 11) hx hb htb in_Book hown hK hP 0 rfl rfl 1 (by decide) (htb _ mb_149) (fun _ h9 => h9) rfl d_Book_dayOf_6 ?_
    refine va_alen (v := 12) hx hb hK hP 2 2 rfl rfl (by rfl) d_Book_dayOf_9 ?_
    refine lv_icmp_ge (tgt := 22) hx hb d_Book_dayOf_10 (by decide) (fun c_2 => ?_) (fun c_2 => ?_)
    · have hF := hF.trans (if_pos c_2)
      refine lv_lconst (v := 0) hx hb d_Book_dayOf_22 (by decide) ?_
      have hP9 := hP.sub (ws' := [(oB, .inr (0, [.ref gN, .ref gD, .ref gC, .int rc, .ref gS, .ref gL, .ref gR, .int cc_, .ref gK, .ref gW, .int sc])), (gN, .inl (cJ, 12, .inr (.inl bn))), (gD, .inl (cJ, 12, .inr (.inl bd))), (gC, .inl (cI, 12, .inl bc)), (gS, .inl (cI, 30, .inl bs)), (gL, .inl (cI, 30, .inl bl)), (gR, .inl (cI, 30, .inl br)), (gK, .inl (cI, 120, .inl bk)), (gW, .inl (cJ, 120, .inr (.inl bw)))]) [0, 1, 2, 3, 4, 5, 6, 7, 8] rfl
      have hD9 := hD.sub (ws' := [(oB, .inr (0, [.ref gN, .ref gD, .ref gC, .int rc, .ref gS, .ref gL, .ref gR, .int cc_, .ref gK, .ref gW, .int sc])), (gN, .inl (cJ, 12, .inr (.inl bn))), (gD, .inl (cJ, 12, .inr (.inl bd))), (gC, .inl (cI, 12, .inl bc)), (gS, .inl (cI, 30, .inl bs)), (gL, .inl (cI, 30, .inl bl)), (gR, .inl (cI, 30, .inl br)), (gK, .inl (cI, 120, .inl bk)), (gW, .inl (cJ, 120, .inr (.inl bw)))]) [0, 1, 2, 3, 4, 5, 6, 7, 8] (by decide) rfl
      exact W.lret (v := (0 : Int64)) hx hb hr (fun t ht hW => ⟨⟨(0 : Int64), (), rfl, by rw [hF], by rw [ht]; exact hP9, hD9⟩, hS.F ht⟩) hS.2.2 d_Book_dayOf_23
    · have hF := hF.trans (if_neg c_2)
      refine lv_aload_n hx hb d_Book_dayOf_13 rfl (lv_at hl 0 rfl) ?_
      refine va_get (D := (dC, dI)) (ci := 0) (v := .ref gD) (C := "PermitRules$Book") (T := T_Book) (N := 11) hx hb htb in_Book hown hK hP 0 rfl rfl 1 (by decide) (htb _ mb_149) (fun _ h9 => h9) rfl d_Book_dayOf_14 ?_
      refine lv_iload_n hx hb d_Book_dayOf_17 rfl (lv_at hl 1 rfl) ?_
      refine va_lald hx hb hK hP 2 2 rfl rfl (oi_in (N := 12) (by decide) c_1 c_2) d_Book_dayOf_18 ?_
      refine lv_goto (tgt := 23) hx hb d_Book_dayOf_19 (by decide) ?_
      have hP9 := hP.sub (ws' := [(oB, .inr (0, [.ref gN, .ref gD, .ref gC, .int rc, .ref gS, .ref gL, .ref gR, .int cc_, .ref gK, .ref gW, .int sc])), (gN, .inl (cJ, 12, .inr (.inl bn))), (gD, .inl (cJ, 12, .inr (.inl bd))), (gC, .inl (cI, 12, .inl bc)), (gS, .inl (cI, 30, .inl bs)), (gL, .inl (cI, 30, .inl bl)), (gR, .inl (cI, 30, .inl br)), (gK, .inl (cI, 120, .inl bk)), (gW, .inl (cJ, 120, .inr (.inl bw)))]) [0, 1, 2, 3, 4, 5, 6, 7, 8] rfl
      have hD9 := hD.sub (ws' := [(oB, .inr (0, [.ref gN, .ref gD, .ref gC, .int rc, .ref gS, .ref gL, .ref gR, .int cc_, .ref gK, .ref gW, .int sc])), (gN, .inl (cJ, 12, .inr (.inl bn))), (gD, .inl (cJ, 12, .inr (.inl bd))), (gC, .inl (cI, 12, .inl bc)), (gS, .inl (cI, 30, .inl bs)), (gL, .inl (cI, 30, .inl bl)), (gR, .inl (cI, 30, .inl br)), (gK, .inl (cI, 120, .inl bk)), (gW, .inl (cJ, 120, .inr (.inl bw)))]) [0, 1, 2, 3, 4, 5, 6, 7, 8] (by decide) rfl
      exact W.lret (v := bd nu.toNatClampNeg) hx hb hr (fun t ht hW => ⟨⟨bd nu.toNatClampNeg, (), rfl, by rw [hF], by rw [ht]; exact hP9, hD9⟩, hS.F ht⟩) hS.2.2 d_Book_dayOf_23
def f_Book_clauseBehind (nu : Int32) (bc : (Nat → Int32)) : Int32 := (if nu < 0 then 0 else (if 12 ≤ nu then 0 else bc nu.toNatClampNeg))
abbrev q_Book_clauseBehind (dC : Nat → ClassId) (dI : Nat → Nat → Nat) (cB cI cJ : ClassId) (oB gN gD gC gS gL gR gK gW : Nat) (nu : Int32) (rc : Int32) (cc_ : Int32) (sc : Int32) (bn : (Nat → Int64)) (bd : (Nat → Int64)) (bc : (Nat → Int32)) (bs : (Nat → Int32)) (bl : (Nat → Int32)) (br : (Nat → Int32)) (bk : (Nat → Int32)) (bw : (Nat → Int64)) (A : Nat → Prop) : Array Value → State → Outcome → State → Prop := va_Qi (fun (r : Int32) (u : Unit) => r = f_Book_clauseBehind nu bc) (fun u t => va_P (dC, dI) vwCl [(oB, .inr (0, [.ref gN, .ref gD, .ref gC, .int rc, .ref gS, .ref gL, .ref gR, .int cc_, .ref gK, .ref gW, .int sc])), (gN, .inl (cJ, 12, .inr (.inl bn))), (gD, .inl (cJ, 12, .inr (.inl bd))), (gC, .inl (cI, 12, .inl bc)), (gS, .inl (cI, 30, .inl bs)), (gL, .inl (cI, 30, .inl bl)), (gR, .inl (cI, 30, .inl br)), (gK, .inl (cI, 120, .inl bk)), (gW, .inl (cJ, 120, .inr (.inl bw)))] t.heap ∧ va_D A [(oB, .inr (0, [.ref gN, .ref gD, .ref gC, .int rc, .ref gS, .ref gL, .ref gR, .int cc_, .ref gK, .ref gW, .int sc])), (gN, .inl (cJ, 12, .inr (.inl bn))), (gD, .inl (cJ, 12, .inr (.inl bd))), (gC, .inl (cI, 12, .inl bc)), (gS, .inl (cI, 30, .inl bs)), (gL, .inl (cI, 30, .inl bl)), (gR, .inl (cI, 30, .inl br)), (gK, .inl (cI, 120, .inl bk)), (gW, .inl (cJ, 120, .inr (.inl bw)))]) A
set_option maxHeartbeats 4000000 in
set_option maxRecDepth 100000 in
theorem c_Book_clauseBehind (l : Launch) (dC : Nat → ClassId) (dI : Nat → Nat → Nat) (cB cI cJ : ClassId) (oB gN gD gC gS gL gR gK gW : Nat) (sz : Nat) (nu : Int32) (rc : Int32) (cc_ : Int32) (sc : Int32) (bn : (Nat → Int64)) (bd : (Nat → Int64)) (bc : (Nat → Int32)) (bs : (Nat → Int32)) (bl : (Nat → Int32)) (br : (Nat → Int32)) (bk : (Nat → Int32)) (bw : (Nat → Int64)) : Met l y_Book_clauseBehind (cw_Book_clauseBehind :: bgw) { frames := 0, cells := 0, slots := 0, locals := 0 } (va_Pc [.ref oB, .int nu] (kb_B dC dI cB cI cJ [(oB, .inr (0, [.ref gN, .ref gD, .ref gC, .int rc, .ref gS, .ref gL, .ref gR, .int cc_, .ref gK, .ref gW, .int sc])), (gN, .inl (cJ, 12, .inr (.inl bn))), (gD, .inl (cJ, 12, .inr (.inl bd))), (gC, .inl (cI, 12, .inl bc)), (gS, .inl (cI, 30, .inl bs)), (gL, .inl (cI, 30, .inl bl)), (gR, .inl (cI, 30, .inl br)), (gK, .inl (cI, 120, .inl bk)), (gW, .inl (cJ, 120, .inr (.inl bw)))] sz)) (q_Book_clauseBehind dC dI cB cI cJ oB gN gD gC gS gL gR gK gW nu rc cc_ sc bn bd bc bs bl br bk bw (va_A [(oB, .inr (0, [.ref gN, .ref gD, .ref gC, .int rc, .ref gS, .ref gL, .ref gR, .int cc_, .ref gK, .ref gW, .int sc])), (gN, .inl (cJ, 12, .inr (.inl bn))), (gD, .inl (cJ, 12, .inr (.inl bd))), (gC, .inl (cI, 12, .inl bc)), (gS, .inl (cI, 30, .inl bs)), (gL, .inl (cI, 30, .inl bl)), (gR, .inl (cI, 30, .inl br)), (gK, .inl (cI, 120, .inl bk)), (gW, .inl (cJ, 120, .inr (.inl bw)))] sz)) 0 0 (va_A [(oB, .inr (0, [.ref gN, .ref gD, .ref gC, .int rc, .ref gS, .ref gL, .ref gR, .int cc_, .ref gK, .ref gW, .int sc])), (gN, .inl (cJ, 12, .inr (.inl bn))), (gD, .inl (cJ, 12, .inr (.inl bd))), (gC, .inl (cI, 12, .inl bc)), (gS, .inl (cI, 30, .inl bs)), (gL, .inl (cI, 30, .inl bl)), (gR, .inl (cI, 30, .inl br)), (gK, .inl (cI, 120, .inl bk)), (gW, .inl (cJ, 120, .inr (.inl bw)))] sz) := by
  refine Met.ofW (cc := prog_2_method_10_code) (maxL := 2) (ret := (some .int)) (by decide) rfl ?_
  intro p e s m args below meth c s₁ B hml hv
  obtain ⟨rfl, hsz, hP, hKx, hD0⟩ := hv
  have hx := B.exec
  have hb := B.bytes
  have hr := B.returns
  have hts := atoms_spec (ws := (cw_Book_clauseBehind :: bgw)) B.pre
  have hown : s.vm.findClass "PermitRules$Book" = some m.cls := findClass_of_methodNamed B.named
  have hlocks := B.notSynchronized
  have htb := fun (w : Cond) (h : w ∈ bgw) => hts w (List.mem_cons_of_mem _ h)
  have hK := hKx.1
  subst hsz
  have hD := hD0.self (sz := s.heap.size)
  generalize hAe : va_A [(oB, .inr (0, [.ref gN, .ref gD, .ref gC, .int rc, .ref gS, .ref gL, .ref gR, .int cc_, .ref gK, .ref gW, .int sc])), (gN, .inl (cJ, 12, .inr (.inl bn))), (gD, .inl (cJ, 12, .inr (.inl bd))), (gC, .inl (cI, 12, .inl bc)), (gS, .inl (cI, 30, .inl bs)), (gL, .inl (cI, 30, .inl bl)), (gR, .inl (cI, 30, .inl br)), (gK, .inl (cI, 120, .inl bk)), (gW, .inl (cJ, 120, .inr (.inl bw)))] s.heap.size = A at hD ⊢
  have hA : ∀ q : Nat, s.heap.size ≤ q → A q := fun q h => by rw [← hAe]; exact Or.inr h
  have hS : va_S A s.heap s.heap [] := va_S.rf
  have hl := lv_entry ([.ref oB, .int nu]) (n := 2) (Nat.le_of_ble_eq_true rfl)
  rw [lg_entry_eq]
  generalize (lg_sl ([.ref oB, .int nu]) ++ List.replicate (2 - (lg_sl ([.ref oB, .int nu])).length) Slot.unset).toArray = ls at hl ⊢
  have hl : lv_has ls 2 [(0, .ref oB), (1, .int nu)] := hl
  have hP : va_P (dC, dI) vwCl [(oB, .inr (0, [.ref gN, .ref gD, .ref gC, .int rc, .ref gS, .ref gL, .ref gR, .int cc_, .ref gK, .ref gW, .int sc])), (gN, .inl (cJ, 12, .inr (.inl bn))), (gD, .inl (cJ, 12, .inr (.inl bd))), (gC, .inl (cI, 12, .inl bc)), (gS, .inl (cI, 30, .inl bs)), (gL, .inl (cI, 30, .inl bl)), (gR, .inl (cI, 30, .inl br)), (gK, .inl (cI, 120, .inl bk)), (gW, .inl (cJ, 120, .inr (.inl bw)))] s.heap := hP
  have hF : f_Book_clauseBehind nu bc = (if nu < 0 then 0 else (if 12 ≤ nu then 0 else bc nu.toNatClampNeg)) := rfl
  refine lv_iload_n hx hb d_Book_clauseBehind_0 rfl (lv_at hl 1 rfl) ?_
  refine lv_if_lt (tgt := 22) hx hb d_Book_clauseBehind_1 (by decide) (fun c_1 => ?_) (fun c_1 => ?_)
  · have hF := hF.trans (if_pos c_1)
    refine lv_iconst (v := 0) hx hb d_Book_clauseBehind_22 (by decide) ?_
    have hP9 := hP.sub (ws' := [(oB, .inr (0, [.ref gN, .ref gD, .ref gC, .int rc, .ref gS, .ref gL, .ref gR, .int cc_, .ref gK, .ref gW, .int sc])), (gN, .inl (cJ, 12, .inr (.inl bn))), (gD, .inl (cJ, 12, .inr (.inl bd))), (gC, .inl (cI, 12, .inl bc)), (gS, .inl (cI, 30, .inl bs)), (gL, .inl (cI, 30, .inl bl)), (gR, .inl (cI, 30, .inl br)), (gK, .inl (cI, 120, .inl bk)), (gW, .inl (cJ, 120, .inr (.inl bw)))]) [0, 1, 2, 3, 4, 5, 6, 7, 8] rfl
    have hD9 := hD.sub (ws' := [(oB, .inr (0, [.ref gN, .ref gD, .ref gC, .int rc, .ref gS, .ref gL, .ref gR, .int cc_, .ref gK, .ref gW, .int sc])), (gN, .inl (cJ, 12, .inr (.inl bn))), (gD, .inl (cJ, 12, .inr (.inl bd))), (gC, .inl (cI, 12, .inl bc)), (gS, .inl (cI, 30, .inl bs)), (gL, .inl (cI, 30, .inl bl)), (gR, .inl (cI, 30, .inl br)), (gK, .inl (cI, 120, .inl bk)), (gW, .inl (cJ, 120, .inr (.inl bw)))]) [0, 1, 2, 3, 4, 5, 6, 7, 8] (by decide) rfl
    exact W.iret (v := (0 : Int32)) hx hb hr (fun t ht hW => ⟨⟨(0 : Int32), (), rfl, by rw [hF], by rw [ht]; exact hP9, hD9⟩, hS.F ht⟩) hS.2.2 d_Book_clauseBehind_23
  · have hF := hF.trans (if_neg c_1)
    refine lv_iload_n hx hb d_Book_clauseBehind_4 rfl (lv_at hl 1 rfl) ?_
    refine lv_aload_n hx hb d_Book_clauseBehind_5 rfl (lv_at hl 0 rfl) ?_
    refine va_get (D := (dC, dI)) (ci := 0) (v := .ref gC) (C := "PermitRules$Book") (T := T_Book) (N := 11) hx hb htb in_Book hown hK hP 0 rfl rfl 2 (by decide) (htb _ mb_150) (fun _ h9 => h9) rfl d_Book_clauseBehind_6 ?_
    refine va_alen (v := 12) hx hb hK hP 3 1 rfl rfl (by rfl) d_Book_clauseBehind_9 ?_
    refine lv_icmp_ge (tgt := 22) hx hb d_Book_clauseBehind_10 (by decide) (fun c_2 => ?_) (fun c_2 => ?_)
    · have hF := hF.trans (if_pos c_2)
      refine lv_iconst (v := 0) hx hb d_Book_clauseBehind_22 (by decide) ?_
      have hP9 := hP.sub (ws' := [(oB, .inr (0, [.ref gN, .ref gD, .ref gC, .int rc, .ref gS, .ref gL, .ref gR, .int cc_, .ref gK, .ref gW, .int sc])), (gN, .inl (cJ, 12, .inr (.inl bn))), (gD, .inl (cJ, 12, .inr (.inl bd))), (gC, .inl (cI, 12, .inl bc)), (gS, .inl (cI, 30, .inl bs)), (gL, .inl (cI, 30, .inl bl)), (gR, .inl (cI, 30, .inl br)), (gK, .inl (cI, 120, .inl bk)), (gW, .inl (cJ, 120, .inr (.inl bw)))]) [0, 1, 2, 3, 4, 5, 6, 7, 8] rfl
      have hD9 := hD.sub (ws' := [(oB, .inr (0, [.ref gN, .ref gD, .ref gC, .int rc, .ref gS, .ref gL, .ref gR, .int cc_, .ref gK, .ref gW, .int sc])), (gN, .inl (cJ, 12, .inr (.inl bn))), (gD, .inl (cJ, 12, .inr (.inl bd))), (gC, .inl (cI, 12, .inl bc)), (gS, .inl (cI, 30, .inl bs)), (gL, .inl (cI, 30, .inl bl)), (gR, .inl (cI, 30, .inl br)), (gK, .inl (cI, 120, .inl bk)), (gW, .inl (cJ, 120, .inr (.inl bw)))]) [0, 1, 2, 3, 4, 5, 6, 7, 8] (by decide) rfl
      exact W.iret (v := (0 : Int32)) hx hb hr (fun t ht hW => ⟨⟨(0 : Int32), (), rfl, by rw [hF], by rw [ht]; exact hP9, hD9⟩, hS.F ht⟩) hS.2.2 d_Book_clauseBehind_23
    · have hF := hF.trans (if_neg c_2)
      refine lv_aload_n hx hb d_Book_clauseBehind_13 rfl (lv_at hl 0 rfl) ?_
      refine va_get (D := (dC, dI)) (ci := 0) (v := .ref gC) (C := "PermitRules$Book") (T := T_Book) (N := 11) hx hb htb in_Book hown hK hP 0 rfl rfl 2 (by decide) (htb _ mb_150) (fun _ h9 => h9) rfl d_Book_clauseBehind_14 ?_
      refine lv_iload_n hx hb d_Book_clauseBehind_17 rfl (lv_at hl 1 rfl) ?_
      refine va_iald hx hb hK hP 3 1 rfl rfl (oi_in (N := 12) (by decide) c_1 c_2) d_Book_clauseBehind_18 ?_
      refine lv_goto (tgt := 23) hx hb d_Book_clauseBehind_19 (by decide) ?_
      have hP9 := hP.sub (ws' := [(oB, .inr (0, [.ref gN, .ref gD, .ref gC, .int rc, .ref gS, .ref gL, .ref gR, .int cc_, .ref gK, .ref gW, .int sc])), (gN, .inl (cJ, 12, .inr (.inl bn))), (gD, .inl (cJ, 12, .inr (.inl bd))), (gC, .inl (cI, 12, .inl bc)), (gS, .inl (cI, 30, .inl bs)), (gL, .inl (cI, 30, .inl bl)), (gR, .inl (cI, 30, .inl br)), (gK, .inl (cI, 120, .inl bk)), (gW, .inl (cJ, 120, .inr (.inl bw)))]) [0, 1, 2, 3, 4, 5, 6, 7, 8] rfl
      have hD9 := hD.sub (ws' := [(oB, .inr (0, [.ref gN, .ref gD, .ref gC, .int rc, .ref gS, .ref gL, .ref gR, .int cc_, .ref gK, .ref gW, .int sc])), (gN, .inl (cJ, 12, .inr (.inl bn))), (gD, .inl (cJ, 12, .inr (.inl bd))), (gC, .inl (cI, 12, .inl bc)), (gS, .inl (cI, 30, .inl bs)), (gL, .inl (cI, 30, .inl bl)), (gR, .inl (cI, 30, .inl br)), (gK, .inl (cI, 120, .inl bk)), (gW, .inl (cJ, 120, .inr (.inl bw)))]) [0, 1, 2, 3, 4, 5, 6, 7, 8] (by decide) rfl
      exact W.iret (v := bc nu.toNatClampNeg) hx hb hr (fun t ht hW => ⟨⟨bc nu.toNatClampNeg, (), rfl, by rw [hF], by rw [ht]; exact hP9, hD9⟩, hS.F ht⟩) hS.2.2 d_Book_clauseBehind_23
def f_Book_signOf (nu : Int32) (bs : (Nat → Int32)) : Int32 := (if nu < 0 then 1 else (if 30 ≤ nu then 1 else bs nu.toNatClampNeg))
abbrev q_Book_signOf (dC : Nat → ClassId) (dI : Nat → Nat → Nat) (cB cI cJ : ClassId) (oB gN gD gC gS gL gR gK gW : Nat) (nu : Int32) (rc : Int32) (cc_ : Int32) (sc : Int32) (bn : (Nat → Int64)) (bd : (Nat → Int64)) (bc : (Nat → Int32)) (bs : (Nat → Int32)) (bl : (Nat → Int32)) (br : (Nat → Int32)) (bk : (Nat → Int32)) (bw : (Nat → Int64)) (A : Nat → Prop) : Array Value → State → Outcome → State → Prop := va_Qi (fun (r : Int32) (u : Unit) => r = f_Book_signOf nu bs) (fun u t => va_P (dC, dI) vwCl [(oB, .inr (0, [.ref gN, .ref gD, .ref gC, .int rc, .ref gS, .ref gL, .ref gR, .int cc_, .ref gK, .ref gW, .int sc])), (gN, .inl (cJ, 12, .inr (.inl bn))), (gD, .inl (cJ, 12, .inr (.inl bd))), (gC, .inl (cI, 12, .inl bc)), (gS, .inl (cI, 30, .inl bs)), (gL, .inl (cI, 30, .inl bl)), (gR, .inl (cI, 30, .inl br)), (gK, .inl (cI, 120, .inl bk)), (gW, .inl (cJ, 120, .inr (.inl bw)))] t.heap ∧ va_D A [(oB, .inr (0, [.ref gN, .ref gD, .ref gC, .int rc, .ref gS, .ref gL, .ref gR, .int cc_, .ref gK, .ref gW, .int sc])), (gN, .inl (cJ, 12, .inr (.inl bn))), (gD, .inl (cJ, 12, .inr (.inl bd))), (gC, .inl (cI, 12, .inl bc)), (gS, .inl (cI, 30, .inl bs)), (gL, .inl (cI, 30, .inl bl)), (gR, .inl (cI, 30, .inl br)), (gK, .inl (cI, 120, .inl bk)), (gW, .inl (cJ, 120, .inr (.inl bw)))]) A
set_option maxHeartbeats 4000000 in
set_option maxRecDepth 100000 in
theorem c_Book_signOf (l : Launch) (dC : Nat → ClassId) (dI : Nat → Nat → Nat) (cB cI cJ : ClassId) (oB gN gD gC gS gL gR gK gW : Nat) (sz : Nat) (nu : Int32) (rc : Int32) (cc_ : Int32) (sc : Int32) (bn : (Nat → Int64)) (bd : (Nat → Int64)) (bc : (Nat → Int32)) (bs : (Nat → Int32)) (bl : (Nat → Int32)) (br : (Nat → Int32)) (bk : (Nat → Int32)) (bw : (Nat → Int64)) : Met l y_Book_signOf (cw_Book_signOf :: bgw) { frames := 0, cells := 0, slots := 0, locals := 0 } (va_Pc [.ref oB, .int nu] (kb_B dC dI cB cI cJ [(oB, .inr (0, [.ref gN, .ref gD, .ref gC, .int rc, .ref gS, .ref gL, .ref gR, .int cc_, .ref gK, .ref gW, .int sc])), (gN, .inl (cJ, 12, .inr (.inl bn))), (gD, .inl (cJ, 12, .inr (.inl bd))), (gC, .inl (cI, 12, .inl bc)), (gS, .inl (cI, 30, .inl bs)), (gL, .inl (cI, 30, .inl bl)), (gR, .inl (cI, 30, .inl br)), (gK, .inl (cI, 120, .inl bk)), (gW, .inl (cJ, 120, .inr (.inl bw)))] sz)) (q_Book_signOf dC dI cB cI cJ oB gN gD gC gS gL gR gK gW nu rc cc_ sc bn bd bc bs bl br bk bw (va_A [(oB, .inr (0, [.ref gN, .ref gD, .ref gC, .int rc, .ref gS, .ref gL, .ref gR, .int cc_, .ref gK, .ref gW, .int sc])), (gN, .inl (cJ, 12, .inr (.inl bn))), (gD, .inl (cJ, 12, .inr (.inl bd))), (gC, .inl (cI, 12, .inl bc)), (gS, .inl (cI, 30, .inl bs)), (gL, .inl (cI, 30, .inl bl)), (gR, .inl (cI, 30, .inl br)), (gK, .inl (cI, 120, .inl bk)), (gW, .inl (cJ, 120, .inr (.inl bw)))] sz)) 0 0 (va_A [(oB, .inr (0, [.ref gN, .ref gD, .ref gC, .int rc, .ref gS, .ref gL, .ref gR, .int cc_, .ref gK, .ref gW, .int sc])), (gN, .inl (cJ, 12, .inr (.inl bn))), (gD, .inl (cJ, 12, .inr (.inl bd))), (gC, .inl (cI, 12, .inl bc)), (gS, .inl (cI, 30, .inl bs)), (gL, .inl (cI, 30, .inl bl)), (gR, .inl (cI, 30, .inl br)), (gK, .inl (cI, 120, .inl bk)), (gW, .inl (cJ, 120, .inr (.inl bw)))] sz) := by
  refine Met.ofW (cc := prog_2_method_11_code) (maxL := 2) (ret := (some .int)) (by decide) rfl ?_
  intro p e s m args below meth c s₁ B hml hv
  obtain ⟨rfl, hsz, hP, hKx, hD0⟩ := hv
  have hx := B.exec
  have hb := B.bytes
  have hr := B.returns
  have hts := atoms_spec (ws := (cw_Book_signOf :: bgw)) B.pre
  have hown : s.vm.findClass "PermitRules$Book" = some m.cls := findClass_of_methodNamed B.named
  have hlocks := B.notSynchronized
  have htb := fun (w : Cond) (h : w ∈ bgw) => hts w (List.mem_cons_of_mem _ h)
  have hK := hKx.1
  subst hsz
  have hD := hD0.self (sz := s.heap.size)
  generalize hAe : va_A [(oB, .inr (0, [.ref gN, .ref gD, .ref gC, .int rc, .ref gS, .ref gL, .ref gR, .int cc_, .ref gK, .ref gW, .int sc])), (gN, .inl (cJ, 12, .inr (.inl bn))), (gD, .inl (cJ, 12, .inr (.inl bd))), (gC, .inl (cI, 12, .inl bc)), (gS, .inl (cI, 30, .inl bs)), (gL, .inl (cI, 30, .inl bl)), (gR, .inl (cI, 30, .inl br)), (gK, .inl (cI, 120, .inl bk)), (gW, .inl (cJ, 120, .inr (.inl bw)))] s.heap.size = A at hD ⊢
  have hA : ∀ q : Nat, s.heap.size ≤ q → A q := fun q h => by rw [← hAe]; exact Or.inr h
  have hS : va_S A s.heap s.heap [] := va_S.rf
  have hl := lv_entry ([.ref oB, .int nu]) (n := 2) (Nat.le_of_ble_eq_true rfl)
  rw [lg_entry_eq]
  generalize (lg_sl ([.ref oB, .int nu]) ++ List.replicate (2 - (lg_sl ([.ref oB, .int nu])).length) Slot.unset).toArray = ls at hl ⊢
  have hl : lv_has ls 2 [(0, .ref oB), (1, .int nu)] := hl
  have hP : va_P (dC, dI) vwCl [(oB, .inr (0, [.ref gN, .ref gD, .ref gC, .int rc, .ref gS, .ref gL, .ref gR, .int cc_, .ref gK, .ref gW, .int sc])), (gN, .inl (cJ, 12, .inr (.inl bn))), (gD, .inl (cJ, 12, .inr (.inl bd))), (gC, .inl (cI, 12, .inl bc)), (gS, .inl (cI, 30, .inl bs)), (gL, .inl (cI, 30, .inl bl)), (gR, .inl (cI, 30, .inl br)), (gK, .inl (cI, 120, .inl bk)), (gW, .inl (cJ, 120, .inr (.inl bw)))] s.heap := hP
  have hF : f_Book_signOf nu bs = (if nu < 0 then 1 else (if 30 ≤ nu then 1 else bs nu.toNatClampNeg)) := rfl
  refine lv_iload_n hx hb d_Book_signOf_0 rfl (lv_at hl 1 rfl) ?_
  refine lv_if_lt (tgt := 22) hx hb d_Book_signOf_1 (by decide) (fun c_1 => ?_) (fun c_1 => ?_)
  · have hF := hF.trans (if_pos c_1)
    refine lv_iconst (v := 1) hx hb d_Book_signOf_22 (by decide) ?_
    have hP9 := hP.sub (ws' := [(oB, .inr (0, [.ref gN, .ref gD, .ref gC, .int rc, .ref gS, .ref gL, .ref gR, .int cc_, .ref gK, .ref gW, .int sc])), (gN, .inl (cJ, 12, .inr (.inl bn))), (gD, .inl (cJ, 12, .inr (.inl bd))), (gC, .inl (cI, 12, .inl bc)), (gS, .inl (cI, 30, .inl bs)), (gL, .inl (cI, 30, .inl bl)), (gR, .inl (cI, 30, .inl br)), (gK, .inl (cI, 120, .inl bk)), (gW, .inl (cJ, 120, .inr (.inl bw)))]) [0, 1, 2, 3, 4, 5, 6, 7, 8] rfl
    have hD9 := hD.sub (ws' := [(oB, .inr (0, [.ref gN, .ref gD, .ref gC, .int rc, .ref gS, .ref gL, .ref gR, .int cc_, .ref gK, .ref gW, .int sc])), (gN, .inl (cJ, 12, .inr (.inl bn))), (gD, .inl (cJ, 12, .inr (.inl bd))), (gC, .inl (cI, 12, .inl bc)), (gS, .inl (cI, 30, .inl bs)), (gL, .inl (cI, 30, .inl bl)), (gR, .inl (cI, 30, .inl br)), (gK, .inl (cI, 120, .inl bk)), (gW, .inl (cJ, 120, .inr (.inl bw)))]) [0, 1, 2, 3, 4, 5, 6, 7, 8] (by decide) rfl
    exact W.iret (v := (1 : Int32)) hx hb hr (fun t ht hW => ⟨⟨(1 : Int32), (), rfl, by rw [hF], by rw [ht]; exact hP9, hD9⟩, hS.F ht⟩) hS.2.2 d_Book_signOf_23
  · have hF := hF.trans (if_neg c_1)
    refine lv_iload_n hx hb d_Book_signOf_4 rfl (lv_at hl 1 rfl) ?_
    refine lv_aload_n hx hb d_Book_signOf_5 rfl (lv_at hl 0 rfl) ?_
    refine va_get (D := (dC, dI)) (ci := 0) (v := .ref gS) (C := "PermitRules$Book") (T := T_Book) (N := 11) hx hb htb in_Book hown hK hP 0 rfl rfl 4 (by decide) (htb _ mb_153) (fun _ h9 => h9) rfl d_Book_signOf_6 ?_
    refine va_alen (v := 30) hx hb hK hP 4 1 rfl rfl (by rfl) d_Book_signOf_9 ?_
    refine lv_icmp_ge (tgt := 22) hx hb d_Book_signOf_10 (by decide) (fun c_2 => ?_) (fun c_2 => ?_)
    · have hF := hF.trans (if_pos c_2)
      refine lv_iconst (v := 1) hx hb d_Book_signOf_22 (by decide) ?_
      have hP9 := hP.sub (ws' := [(oB, .inr (0, [.ref gN, .ref gD, .ref gC, .int rc, .ref gS, .ref gL, .ref gR, .int cc_, .ref gK, .ref gW, .int sc])), (gN, .inl (cJ, 12, .inr (.inl bn))), (gD, .inl (cJ, 12, .inr (.inl bd))), (gC, .inl (cI, 12, .inl bc)), (gS, .inl (cI, 30, .inl bs)), (gL, .inl (cI, 30, .inl bl)), (gR, .inl (cI, 30, .inl br)), (gK, .inl (cI, 120, .inl bk)), (gW, .inl (cJ, 120, .inr (.inl bw)))]) [0, 1, 2, 3, 4, 5, 6, 7, 8] rfl
      have hD9 := hD.sub (ws' := [(oB, .inr (0, [.ref gN, .ref gD, .ref gC, .int rc, .ref gS, .ref gL, .ref gR, .int cc_, .ref gK, .ref gW, .int sc])), (gN, .inl (cJ, 12, .inr (.inl bn))), (gD, .inl (cJ, 12, .inr (.inl bd))), (gC, .inl (cI, 12, .inl bc)), (gS, .inl (cI, 30, .inl bs)), (gL, .inl (cI, 30, .inl bl)), (gR, .inl (cI, 30, .inl br)), (gK, .inl (cI, 120, .inl bk)), (gW, .inl (cJ, 120, .inr (.inl bw)))]) [0, 1, 2, 3, 4, 5, 6, 7, 8] (by decide) rfl
      exact W.iret (v := (1 : Int32)) hx hb hr (fun t ht hW => ⟨⟨(1 : Int32), (), rfl, by rw [hF], by rw [ht]; exact hP9, hD9⟩, hS.F ht⟩) hS.2.2 d_Book_signOf_23
    · have hF := hF.trans (if_neg c_2)
      refine lv_aload_n hx hb d_Book_signOf_13 rfl (lv_at hl 0 rfl) ?_
      refine va_get (D := (dC, dI)) (ci := 0) (v := .ref gS) (C := "PermitRules$Book") (T := T_Book) (N := 11) hx hb htb in_Book hown hK hP 0 rfl rfl 4 (by decide) (htb _ mb_153) (fun _ h9 => h9) rfl d_Book_signOf_14 ?_
      refine lv_iload_n hx hb d_Book_signOf_17 rfl (lv_at hl 1 rfl) ?_
      refine va_iald hx hb hK hP 4 1 rfl rfl (oi_in (N := 30) (by decide) c_1 c_2) d_Book_signOf_18 ?_
      refine lv_goto (tgt := 23) hx hb d_Book_signOf_19 (by decide) ?_
      have hP9 := hP.sub (ws' := [(oB, .inr (0, [.ref gN, .ref gD, .ref gC, .int rc, .ref gS, .ref gL, .ref gR, .int cc_, .ref gK, .ref gW, .int sc])), (gN, .inl (cJ, 12, .inr (.inl bn))), (gD, .inl (cJ, 12, .inr (.inl bd))), (gC, .inl (cI, 12, .inl bc)), (gS, .inl (cI, 30, .inl bs)), (gL, .inl (cI, 30, .inl bl)), (gR, .inl (cI, 30, .inl br)), (gK, .inl (cI, 120, .inl bk)), (gW, .inl (cJ, 120, .inr (.inl bw)))]) [0, 1, 2, 3, 4, 5, 6, 7, 8] rfl
      have hD9 := hD.sub (ws' := [(oB, .inr (0, [.ref gN, .ref gD, .ref gC, .int rc, .ref gS, .ref gL, .ref gR, .int cc_, .ref gK, .ref gW, .int sc])), (gN, .inl (cJ, 12, .inr (.inl bn))), (gD, .inl (cJ, 12, .inr (.inl bd))), (gC, .inl (cI, 12, .inl bc)), (gS, .inl (cI, 30, .inl bs)), (gL, .inl (cI, 30, .inl bl)), (gR, .inl (cI, 30, .inl br)), (gK, .inl (cI, 120, .inl bk)), (gW, .inl (cJ, 120, .inr (.inl bw)))]) [0, 1, 2, 3, 4, 5, 6, 7, 8] (by decide) rfl
      exact W.iret (v := bs nu.toNatClampNeg) hx hb hr (fun t ht hW => ⟨⟨bs nu.toNatClampNeg, (), rfl, by rw [hF], by rw [ht]; exact hP9, hD9⟩, hS.F ht⟩) hS.2.2 d_Book_signOf_23
def f_Book_stepBehindLeft (nu : Int32) (bl : (Nat → Int32)) : Int32 := (if nu < 0 then 0 else (if 30 ≤ nu then 0 else bl nu.toNatClampNeg))
abbrev q_Book_stepBehindLeft (dC : Nat → ClassId) (dI : Nat → Nat → Nat) (cB cI cJ : ClassId) (oB gN gD gC gS gL gR gK gW : Nat) (nu : Int32) (rc : Int32) (cc_ : Int32) (sc : Int32) (bn : (Nat → Int64)) (bd : (Nat → Int64)) (bc : (Nat → Int32)) (bs : (Nat → Int32)) (bl : (Nat → Int32)) (br : (Nat → Int32)) (bk : (Nat → Int32)) (bw : (Nat → Int64)) (A : Nat → Prop) : Array Value → State → Outcome → State → Prop := va_Qi (fun (r : Int32) (u : Unit) => r = f_Book_stepBehindLeft nu bl) (fun u t => va_P (dC, dI) vwCl [(oB, .inr (0, [.ref gN, .ref gD, .ref gC, .int rc, .ref gS, .ref gL, .ref gR, .int cc_, .ref gK, .ref gW, .int sc])), (gN, .inl (cJ, 12, .inr (.inl bn))), (gD, .inl (cJ, 12, .inr (.inl bd))), (gC, .inl (cI, 12, .inl bc)), (gS, .inl (cI, 30, .inl bs)), (gL, .inl (cI, 30, .inl bl)), (gR, .inl (cI, 30, .inl br)), (gK, .inl (cI, 120, .inl bk)), (gW, .inl (cJ, 120, .inr (.inl bw)))] t.heap ∧ va_D A [(oB, .inr (0, [.ref gN, .ref gD, .ref gC, .int rc, .ref gS, .ref gL, .ref gR, .int cc_, .ref gK, .ref gW, .int sc])), (gN, .inl (cJ, 12, .inr (.inl bn))), (gD, .inl (cJ, 12, .inr (.inl bd))), (gC, .inl (cI, 12, .inl bc)), (gS, .inl (cI, 30, .inl bs)), (gL, .inl (cI, 30, .inl bl)), (gR, .inl (cI, 30, .inl br)), (gK, .inl (cI, 120, .inl bk)), (gW, .inl (cJ, 120, .inr (.inl bw)))]) A
set_option maxHeartbeats 4000000 in
set_option maxRecDepth 100000 in
theorem c_Book_stepBehindLeft (l : Launch) (dC : Nat → ClassId) (dI : Nat → Nat → Nat) (cB cI cJ : ClassId) (oB gN gD gC gS gL gR gK gW : Nat) (sz : Nat) (nu : Int32) (rc : Int32) (cc_ : Int32) (sc : Int32) (bn : (Nat → Int64)) (bd : (Nat → Int64)) (bc : (Nat → Int32)) (bs : (Nat → Int32)) (bl : (Nat → Int32)) (br : (Nat → Int32)) (bk : (Nat → Int32)) (bw : (Nat → Int64)) : Met l y_Book_stepBehindLeft (cw_Book_stepBehindLeft :: bgw) { frames := 0, cells := 0, slots := 0, locals := 0 } (va_Pc [.ref oB, .int nu] (kb_B dC dI cB cI cJ [(oB, .inr (0, [.ref gN, .ref gD, .ref gC, .int rc, .ref gS, .ref gL, .ref gR, .int cc_, .ref gK, .ref gW, .int sc])), (gN, .inl (cJ, 12, .inr (.inl bn))), (gD, .inl (cJ, 12, .inr (.inl bd))), (gC, .inl (cI, 12, .inl bc)), (gS, .inl (cI, 30, .inl bs)), (gL, .inl (cI, 30, .inl bl)), (gR, .inl (cI, 30, .inl br)), (gK, .inl (cI, 120, .inl bk)), (gW, .inl (cJ, 120, .inr (.inl bw)))] sz)) (q_Book_stepBehindLeft dC dI cB cI cJ oB gN gD gC gS gL gR gK gW nu rc cc_ sc bn bd bc bs bl br bk bw (va_A [(oB, .inr (0, [.ref gN, .ref gD, .ref gC, .int rc, .ref gS, .ref gL, .ref gR, .int cc_, .ref gK, .ref gW, .int sc])), (gN, .inl (cJ, 12, .inr (.inl bn))), (gD, .inl (cJ, 12, .inr (.inl bd))), (gC, .inl (cI, 12, .inl bc)), (gS, .inl (cI, 30, .inl bs)), (gL, .inl (cI, 30, .inl bl)), (gR, .inl (cI, 30, .inl br)), (gK, .inl (cI, 120, .inl bk)), (gW, .inl (cJ, 120, .inr (.inl bw)))] sz)) 0 0 (va_A [(oB, .inr (0, [.ref gN, .ref gD, .ref gC, .int rc, .ref gS, .ref gL, .ref gR, .int cc_, .ref gK, .ref gW, .int sc])), (gN, .inl (cJ, 12, .inr (.inl bn))), (gD, .inl (cJ, 12, .inr (.inl bd))), (gC, .inl (cI, 12, .inl bc)), (gS, .inl (cI, 30, .inl bs)), (gL, .inl (cI, 30, .inl bl)), (gR, .inl (cI, 30, .inl br)), (gK, .inl (cI, 120, .inl bk)), (gW, .inl (cJ, 120, .inr (.inl bw)))] sz) := by
  refine Met.ofW (cc := prog_2_method_13_code) (maxL := 2) (ret := (some .int)) (by decide) rfl ?_
  intro p e s m args below meth c s₁ B hml hv
  obtain ⟨rfl, hsz, hP, hKx, hD0⟩ := hv
  have hx := B.exec
  have hb := B.bytes
  have hr := B.returns
  have hts := atoms_spec (ws := (cw_Book_stepBehindLeft :: bgw)) B.pre
  have hown : s.vm.findClass "PermitRules$Book" = some m.cls := findClass_of_methodNamed B.named
  have hlocks := B.notSynchronized
  have htb := fun (w : Cond) (h : w ∈ bgw) => hts w (List.mem_cons_of_mem _ h)
  have hK := hKx.1
  subst hsz
  have hD := hD0.self (sz := s.heap.size)
  generalize hAe : va_A [(oB, .inr (0, [.ref gN, .ref gD, .ref gC, .int rc, .ref gS, .ref gL, .ref gR, .int cc_, .ref gK, .ref gW, .int sc])), (gN, .inl (cJ, 12, .inr (.inl bn))), (gD, .inl (cJ, 12, .inr (.inl bd))), (gC, .inl (cI, 12, .inl bc)), (gS, .inl (cI, 30, .inl bs)), (gL, .inl (cI, 30, .inl bl)), (gR, .inl (cI, 30, .inl br)), (gK, .inl (cI, 120, .inl bk)), (gW, .inl (cJ, 120, .inr (.inl bw)))] s.heap.size = A at hD ⊢
  have hA : ∀ q : Nat, s.heap.size ≤ q → A q := fun q h => by rw [← hAe]; exact Or.inr h
  have hS : va_S A s.heap s.heap [] := va_S.rf
  have hl := lv_entry ([.ref oB, .int nu]) (n := 2) (Nat.le_of_ble_eq_true rfl)
  rw [lg_entry_eq]
  generalize (lg_sl ([.ref oB, .int nu]) ++ List.replicate (2 - (lg_sl ([.ref oB, .int nu])).length) Slot.unset).toArray = ls at hl ⊢
  have hl : lv_has ls 2 [(0, .ref oB), (1, .int nu)] := hl
  have hP : va_P (dC, dI) vwCl [(oB, .inr (0, [.ref gN, .ref gD, .ref gC, .int rc, .ref gS, .ref gL, .ref gR, .int cc_, .ref gK, .ref gW, .int sc])), (gN, .inl (cJ, 12, .inr (.inl bn))), (gD, .inl (cJ, 12, .inr (.inl bd))), (gC, .inl (cI, 12, .inl bc)), (gS, .inl (cI, 30, .inl bs)), (gL, .inl (cI, 30, .inl bl)), (gR, .inl (cI, 30, .inl br)), (gK, .inl (cI, 120, .inl bk)), (gW, .inl (cJ, 120, .inr (.inl bw)))] s.heap := hP
  have hF : f_Book_stepBehindLeft nu bl = (if nu < 0 then 0 else (if 30 ≤ nu then 0 else bl nu.toNatClampNeg)) := rfl
  refine lv_iload_n hx hb d_Book_stepBehindLeft_0 rfl (lv_at hl 1 rfl) ?_
  refine lv_if_lt (tgt := 22) hx hb d_Book_stepBehindLeft_1 (by decide) (fun c_1 => ?_) (fun c_1 => ?_)
  · have hF := hF.trans (if_pos c_1)
    refine lv_iconst (v := 0) hx hb d_Book_stepBehindLeft_22 (by decide) ?_
    have hP9 := hP.sub (ws' := [(oB, .inr (0, [.ref gN, .ref gD, .ref gC, .int rc, .ref gS, .ref gL, .ref gR, .int cc_, .ref gK, .ref gW, .int sc])), (gN, .inl (cJ, 12, .inr (.inl bn))), (gD, .inl (cJ, 12, .inr (.inl bd))), (gC, .inl (cI, 12, .inl bc)), (gS, .inl (cI, 30, .inl bs)), (gL, .inl (cI, 30, .inl bl)), (gR, .inl (cI, 30, .inl br)), (gK, .inl (cI, 120, .inl bk)), (gW, .inl (cJ, 120, .inr (.inl bw)))]) [0, 1, 2, 3, 4, 5, 6, 7, 8] rfl
    have hD9 := hD.sub (ws' := [(oB, .inr (0, [.ref gN, .ref gD, .ref gC, .int rc, .ref gS, .ref gL, .ref gR, .int cc_, .ref gK, .ref gW, .int sc])), (gN, .inl (cJ, 12, .inr (.inl bn))), (gD, .inl (cJ, 12, .inr (.inl bd))), (gC, .inl (cI, 12, .inl bc)), (gS, .inl (cI, 30, .inl bs)), (gL, .inl (cI, 30, .inl bl)), (gR, .inl (cI, 30, .inl br)), (gK, .inl (cI, 120, .inl bk)), (gW, .inl (cJ, 120, .inr (.inl bw)))]) [0, 1, 2, 3, 4, 5, 6, 7, 8] (by decide) rfl
    exact W.iret (v := (0 : Int32)) hx hb hr (fun t ht hW => ⟨⟨(0 : Int32), (), rfl, by rw [hF], by rw [ht]; exact hP9, hD9⟩, hS.F ht⟩) hS.2.2 d_Book_stepBehindLeft_23
  · have hF := hF.trans (if_neg c_1)
    refine lv_iload_n hx hb d_Book_stepBehindLeft_4 rfl (lv_at hl 1 rfl) ?_
    refine lv_aload_n hx hb d_Book_stepBehindLeft_5 rfl (lv_at hl 0 rfl) ?_
    refine va_get (D := (dC, dI)) (ci := 0) (v := .ref gL) (C := "PermitRules$Book") (T := T_Book) (N := 11) hx hb htb in_Book hown hK hP 0 rfl rfl 5 (by decide) (htb _ mb_154) (fun _ h9 => h9) rfl d_Book_stepBehindLeft_6 ?_
    refine va_alen (v := 30) hx hb hK hP 5 1 rfl rfl (by rfl) d_Book_stepBehindLeft_9 ?_
    refine lv_icmp_ge (tgt := 22) hx hb d_Book_stepBehindLeft_10 (by decide) (fun c_2 => ?_) (fun c_2 => ?_)
    · have hF := hF.trans (if_pos c_2)
      refine lv_iconst (v := 0) hx hb d_Book_stepBehindLeft_22 (by decide) ?_
      have hP9 := hP.sub (ws' := [(oB, .inr (0, [.ref gN, .ref gD, .ref gC, .int rc, .ref gS, .ref gL, .ref gR, .int cc_, .ref gK, .ref gW, .int sc])), (gN, .inl (cJ, 12, .inr (.inl bn))), (gD, .inl (cJ, 12, .inr (.inl bd))), (gC, .inl (cI, 12, .inl bc)), (gS, .inl (cI, 30, .inl bs)), (gL, .inl (cI, 30, .inl bl)), (gR, .inl (cI, 30, .inl br)), (gK, .inl (cI, 120, .inl bk)), (gW, .inl (cJ, 120, .inr (.inl bw)))]) [0, 1, 2, 3, 4, 5, 6, 7, 8] rfl
      have hD9 := hD.sub (ws' := [(oB, .inr (0, [.ref gN, .ref gD, .ref gC, .int rc, .ref gS, .ref gL, .ref gR, .int cc_, .ref gK, .ref gW, .int sc])), (gN, .inl (cJ, 12, .inr (.inl bn))), (gD, .inl (cJ, 12, .inr (.inl bd))), (gC, .inl (cI, 12, .inl bc)), (gS, .inl (cI, 30, .inl bs)), (gL, .inl (cI, 30, .inl bl)), (gR, .inl (cI, 30, .inl br)), (gK, .inl (cI, 120, .inl bk)), (gW, .inl (cJ, 120, .inr (.inl bw)))]) [0, 1, 2, 3, 4, 5, 6, 7, 8] (by decide) rfl
      exact W.iret (v := (0 : Int32)) hx hb hr (fun t ht hW => ⟨⟨(0 : Int32), (), rfl, by rw [hF], by rw [ht]; exact hP9, hD9⟩, hS.F ht⟩) hS.2.2 d_Book_stepBehindLeft_23
    · have hF := hF.trans (if_neg c_2)
      refine lv_aload_n hx hb d_Book_stepBehindLeft_13 rfl (lv_at hl 0 rfl) ?_
      refine va_get (D := (dC, dI)) (ci := 0) (v := .ref gL) (C := "PermitRules$Book") (T := T_Book) (N := 11) hx hb htb in_Book hown hK hP 0 rfl rfl 5 (by decide) (htb _ mb_154) (fun _ h9 => h9) rfl d_Book_stepBehindLeft_14 ?_
      refine lv_iload_n hx hb d_Book_stepBehindLeft_17 rfl (lv_at hl 1 rfl) ?_
      refine va_iald hx hb hK hP 5 1 rfl rfl (oi_in (N := 30) (by decide) c_1 c_2) d_Book_stepBehindLeft_18 ?_
      refine lv_goto (tgt := 23) hx hb d_Book_stepBehindLeft_19 (by decide) ?_
      have hP9 := hP.sub (ws' := [(oB, .inr (0, [.ref gN, .ref gD, .ref gC, .int rc, .ref gS, .ref gL, .ref gR, .int cc_, .ref gK, .ref gW, .int sc])), (gN, .inl (cJ, 12, .inr (.inl bn))), (gD, .inl (cJ, 12, .inr (.inl bd))), (gC, .inl (cI, 12, .inl bc)), (gS, .inl (cI, 30, .inl bs)), (gL, .inl (cI, 30, .inl bl)), (gR, .inl (cI, 30, .inl br)), (gK, .inl (cI, 120, .inl bk)), (gW, .inl (cJ, 120, .inr (.inl bw)))]) [0, 1, 2, 3, 4, 5, 6, 7, 8] rfl
      have hD9 := hD.sub (ws' := [(oB, .inr (0, [.ref gN, .ref gD, .ref gC, .int rc, .ref gS, .ref gL, .ref gR, .int cc_, .ref gK, .ref gW, .int sc])), (gN, .inl (cJ, 12, .inr (.inl bn))), (gD, .inl (cJ, 12, .inr (.inl bd))), (gC, .inl (cI, 12, .inl bc)), (gS, .inl (cI, 30, .inl bs)), (gL, .inl (cI, 30, .inl bl)), (gR, .inl (cI, 30, .inl br)), (gK, .inl (cI, 120, .inl bk)), (gW, .inl (cJ, 120, .inr (.inl bw)))]) [0, 1, 2, 3, 4, 5, 6, 7, 8] (by decide) rfl
      exact W.iret (v := bl nu.toNatClampNeg) hx hb hr (fun t ht hW => ⟨⟨bl nu.toNatClampNeg, (), rfl, by rw [hF], by rw [ht]; exact hP9, hD9⟩, hS.F ht⟩) hS.2.2 d_Book_stepBehindLeft_23
def f_Book_stepBehindRight (nu : Int32) (br : (Nat → Int32)) : Int32 := (if nu < 0 then 0 else (if 30 ≤ nu then 0 else br nu.toNatClampNeg))
abbrev q_Book_stepBehindRight (dC : Nat → ClassId) (dI : Nat → Nat → Nat) (cB cI cJ : ClassId) (oB gN gD gC gS gL gR gK gW : Nat) (nu : Int32) (rc : Int32) (cc_ : Int32) (sc : Int32) (bn : (Nat → Int64)) (bd : (Nat → Int64)) (bc : (Nat → Int32)) (bs : (Nat → Int32)) (bl : (Nat → Int32)) (br : (Nat → Int32)) (bk : (Nat → Int32)) (bw : (Nat → Int64)) (A : Nat → Prop) : Array Value → State → Outcome → State → Prop := va_Qi (fun (r : Int32) (u : Unit) => r = f_Book_stepBehindRight nu br) (fun u t => va_P (dC, dI) vwCl [(oB, .inr (0, [.ref gN, .ref gD, .ref gC, .int rc, .ref gS, .ref gL, .ref gR, .int cc_, .ref gK, .ref gW, .int sc])), (gN, .inl (cJ, 12, .inr (.inl bn))), (gD, .inl (cJ, 12, .inr (.inl bd))), (gC, .inl (cI, 12, .inl bc)), (gS, .inl (cI, 30, .inl bs)), (gL, .inl (cI, 30, .inl bl)), (gR, .inl (cI, 30, .inl br)), (gK, .inl (cI, 120, .inl bk)), (gW, .inl (cJ, 120, .inr (.inl bw)))] t.heap ∧ va_D A [(oB, .inr (0, [.ref gN, .ref gD, .ref gC, .int rc, .ref gS, .ref gL, .ref gR, .int cc_, .ref gK, .ref gW, .int sc])), (gN, .inl (cJ, 12, .inr (.inl bn))), (gD, .inl (cJ, 12, .inr (.inl bd))), (gC, .inl (cI, 12, .inl bc)), (gS, .inl (cI, 30, .inl bs)), (gL, .inl (cI, 30, .inl bl)), (gR, .inl (cI, 30, .inl br)), (gK, .inl (cI, 120, .inl bk)), (gW, .inl (cJ, 120, .inr (.inl bw)))]) A
set_option maxHeartbeats 4000000 in
set_option maxRecDepth 100000 in
theorem c_Book_stepBehindRight (l : Launch) (dC : Nat → ClassId) (dI : Nat → Nat → Nat) (cB cI cJ : ClassId) (oB gN gD gC gS gL gR gK gW : Nat) (sz : Nat) (nu : Int32) (rc : Int32) (cc_ : Int32) (sc : Int32) (bn : (Nat → Int64)) (bd : (Nat → Int64)) (bc : (Nat → Int32)) (bs : (Nat → Int32)) (bl : (Nat → Int32)) (br : (Nat → Int32)) (bk : (Nat → Int32)) (bw : (Nat → Int64)) : Met l y_Book_stepBehindRight (cw_Book_stepBehindRight :: bgw) { frames := 0, cells := 0, slots := 0, locals := 0 } (va_Pc [.ref oB, .int nu] (kb_B dC dI cB cI cJ [(oB, .inr (0, [.ref gN, .ref gD, .ref gC, .int rc, .ref gS, .ref gL, .ref gR, .int cc_, .ref gK, .ref gW, .int sc])), (gN, .inl (cJ, 12, .inr (.inl bn))), (gD, .inl (cJ, 12, .inr (.inl bd))), (gC, .inl (cI, 12, .inl bc)), (gS, .inl (cI, 30, .inl bs)), (gL, .inl (cI, 30, .inl bl)), (gR, .inl (cI, 30, .inl br)), (gK, .inl (cI, 120, .inl bk)), (gW, .inl (cJ, 120, .inr (.inl bw)))] sz)) (q_Book_stepBehindRight dC dI cB cI cJ oB gN gD gC gS gL gR gK gW nu rc cc_ sc bn bd bc bs bl br bk bw (va_A [(oB, .inr (0, [.ref gN, .ref gD, .ref gC, .int rc, .ref gS, .ref gL, .ref gR, .int cc_, .ref gK, .ref gW, .int sc])), (gN, .inl (cJ, 12, .inr (.inl bn))), (gD, .inl (cJ, 12, .inr (.inl bd))), (gC, .inl (cI, 12, .inl bc)), (gS, .inl (cI, 30, .inl bs)), (gL, .inl (cI, 30, .inl bl)), (gR, .inl (cI, 30, .inl br)), (gK, .inl (cI, 120, .inl bk)), (gW, .inl (cJ, 120, .inr (.inl bw)))] sz)) 0 0 (va_A [(oB, .inr (0, [.ref gN, .ref gD, .ref gC, .int rc, .ref gS, .ref gL, .ref gR, .int cc_, .ref gK, .ref gW, .int sc])), (gN, .inl (cJ, 12, .inr (.inl bn))), (gD, .inl (cJ, 12, .inr (.inl bd))), (gC, .inl (cI, 12, .inl bc)), (gS, .inl (cI, 30, .inl bs)), (gL, .inl (cI, 30, .inl bl)), (gR, .inl (cI, 30, .inl br)), (gK, .inl (cI, 120, .inl bk)), (gW, .inl (cJ, 120, .inr (.inl bw)))] sz) := by
  refine Met.ofW (cc := prog_2_method_14_code) (maxL := 2) (ret := (some .int)) (by decide) rfl ?_
  intro p e s m args below meth c s₁ B hml hv
  obtain ⟨rfl, hsz, hP, hKx, hD0⟩ := hv
  have hx := B.exec
  have hb := B.bytes
  have hr := B.returns
  have hts := atoms_spec (ws := (cw_Book_stepBehindRight :: bgw)) B.pre
  have hown : s.vm.findClass "PermitRules$Book" = some m.cls := findClass_of_methodNamed B.named
  have hlocks := B.notSynchronized
  have htb := fun (w : Cond) (h : w ∈ bgw) => hts w (List.mem_cons_of_mem _ h)
  have hK := hKx.1
  subst hsz
  have hD := hD0.self (sz := s.heap.size)
  generalize hAe : va_A [(oB, .inr (0, [.ref gN, .ref gD, .ref gC, .int rc, .ref gS, .ref gL, .ref gR, .int cc_, .ref gK, .ref gW, .int sc])), (gN, .inl (cJ, 12, .inr (.inl bn))), (gD, .inl (cJ, 12, .inr (.inl bd))), (gC, .inl (cI, 12, .inl bc)), (gS, .inl (cI, 30, .inl bs)), (gL, .inl (cI, 30, .inl bl)), (gR, .inl (cI, 30, .inl br)), (gK, .inl (cI, 120, .inl bk)), (gW, .inl (cJ, 120, .inr (.inl bw)))] s.heap.size = A at hD ⊢
  have hA : ∀ q : Nat, s.heap.size ≤ q → A q := fun q h => by rw [← hAe]; exact Or.inr h
  have hS : va_S A s.heap s.heap [] := va_S.rf
  have hl := lv_entry ([.ref oB, .int nu]) (n := 2) (Nat.le_of_ble_eq_true rfl)
  rw [lg_entry_eq]
  generalize (lg_sl ([.ref oB, .int nu]) ++ List.replicate (2 - (lg_sl ([.ref oB, .int nu])).length) Slot.unset).toArray = ls at hl ⊢
  have hl : lv_has ls 2 [(0, .ref oB), (1, .int nu)] := hl
  have hP : va_P (dC, dI) vwCl [(oB, .inr (0, [.ref gN, .ref gD, .ref gC, .int rc, .ref gS, .ref gL, .ref gR, .int cc_, .ref gK, .ref gW, .int sc])), (gN, .inl (cJ, 12, .inr (.inl bn))), (gD, .inl (cJ, 12, .inr (.inl bd))), (gC, .inl (cI, 12, .inl bc)), (gS, .inl (cI, 30, .inl bs)), (gL, .inl (cI, 30, .inl bl)), (gR, .inl (cI, 30, .inl br)), (gK, .inl (cI, 120, .inl bk)), (gW, .inl (cJ, 120, .inr (.inl bw)))] s.heap := hP
  have hF : f_Book_stepBehindRight nu br = (if nu < 0 then 0 else (if 30 ≤ nu then 0 else br nu.toNatClampNeg)) := rfl
  refine lv_iload_n hx hb d_Book_stepBehindRight_0 rfl (lv_at hl 1 rfl) ?_
  refine lv_if_lt (tgt := 22) hx hb d_Book_stepBehindRight_1 (by decide) (fun c_1 => ?_) (fun c_1 => ?_)
  · have hF := hF.trans (if_pos c_1)
    refine lv_iconst (v := 0) hx hb d_Book_stepBehindRight_22 (by decide) ?_
    have hP9 := hP.sub (ws' := [(oB, .inr (0, [.ref gN, .ref gD, .ref gC, .int rc, .ref gS, .ref gL, .ref gR, .int cc_, .ref gK, .ref gW, .int sc])), (gN, .inl (cJ, 12, .inr (.inl bn))), (gD, .inl (cJ, 12, .inr (.inl bd))), (gC, .inl (cI, 12, .inl bc)), (gS, .inl (cI, 30, .inl bs)), (gL, .inl (cI, 30, .inl bl)), (gR, .inl (cI, 30, .inl br)), (gK, .inl (cI, 120, .inl bk)), (gW, .inl (cJ, 120, .inr (.inl bw)))]) [0, 1, 2, 3, 4, 5, 6, 7, 8] rfl
    have hD9 := hD.sub (ws' := [(oB, .inr (0, [.ref gN, .ref gD, .ref gC, .int rc, .ref gS, .ref gL, .ref gR, .int cc_, .ref gK, .ref gW, .int sc])), (gN, .inl (cJ, 12, .inr (.inl bn))), (gD, .inl (cJ, 12, .inr (.inl bd))), (gC, .inl (cI, 12, .inl bc)), (gS, .inl (cI, 30, .inl bs)), (gL, .inl (cI, 30, .inl bl)), (gR, .inl (cI, 30, .inl br)), (gK, .inl (cI, 120, .inl bk)), (gW, .inl (cJ, 120, .inr (.inl bw)))]) [0, 1, 2, 3, 4, 5, 6, 7, 8] (by decide) rfl
    exact W.iret (v := (0 : Int32)) hx hb hr (fun t ht hW => ⟨⟨(0 : Int32), (), rfl, by rw [hF], by rw [ht]; exact hP9, hD9⟩, hS.F ht⟩) hS.2.2 d_Book_stepBehindRight_23
  · have hF := hF.trans (if_neg c_1)
    refine lv_iload_n hx hb d_Book_stepBehindRight_4 rfl (lv_at hl 1 rfl) ?_
    refine lv_aload_n hx hb d_Book_stepBehindRight_5 rfl (lv_at hl 0 rfl) ?_
    refine va_get (D := (dC, dI)) (ci := 0) (v := .ref gR) (C := "PermitRules$Book") (T := T_Book) (N := 11) hx hb htb in_Book hown hK hP 0 rfl rfl 6 (by decide) (htb _ mb_155) (fun _ h9 => h9) rfl d_Book_stepBehindRight_6 ?_
    refine va_alen (v := 30) hx hb hK hP 6 1 rfl rfl (by rfl) d_Book_stepBehindRight_9 ?_
    refine lv_icmp_ge (tgt := 22) hx hb d_Book_stepBehindRight_10 (by decide) (fun c_2 => ?_) (fun c_2 => ?_)
    · have hF := hF.trans (if_pos c_2)
      refine lv_iconst (v := 0) hx hb d_Book_stepBehindRight_22 (by decide) ?_
      have hP9 := hP.sub (ws' := [(oB, .inr (0, [.ref gN, .ref gD, .ref gC, .int rc, .ref gS, .ref gL, .ref gR, .int cc_, .ref gK, .ref gW, .int sc])), (gN, .inl (cJ, 12, .inr (.inl bn))), (gD, .inl (cJ, 12, .inr (.inl bd))), (gC, .inl (cI, 12, .inl bc)), (gS, .inl (cI, 30, .inl bs)), (gL, .inl (cI, 30, .inl bl)), (gR, .inl (cI, 30, .inl br)), (gK, .inl (cI, 120, .inl bk)), (gW, .inl (cJ, 120, .inr (.inl bw)))]) [0, 1, 2, 3, 4, 5, 6, 7, 8] rfl
      have hD9 := hD.sub (ws' := [(oB, .inr (0, [.ref gN, .ref gD, .ref gC, .int rc, .ref gS, .ref gL, .ref gR, .int cc_, .ref gK, .ref gW, .int sc])), (gN, .inl (cJ, 12, .inr (.inl bn))), (gD, .inl (cJ, 12, .inr (.inl bd))), (gC, .inl (cI, 12, .inl bc)), (gS, .inl (cI, 30, .inl bs)), (gL, .inl (cI, 30, .inl bl)), (gR, .inl (cI, 30, .inl br)), (gK, .inl (cI, 120, .inl bk)), (gW, .inl (cJ, 120, .inr (.inl bw)))]) [0, 1, 2, 3, 4, 5, 6, 7, 8] (by decide) rfl
      exact W.iret (v := (0 : Int32)) hx hb hr (fun t ht hW => ⟨⟨(0 : Int32), (), rfl, by rw [hF], by rw [ht]; exact hP9, hD9⟩, hS.F ht⟩) hS.2.2 d_Book_stepBehindRight_23
    · have hF := hF.trans (if_neg c_2)
      refine lv_aload_n hx hb d_Book_stepBehindRight_13 rfl (lv_at hl 0 rfl) ?_
      refine va_get (D := (dC, dI)) (ci := 0) (v := .ref gR) (C := "PermitRules$Book") (T := T_Book) (N := 11) hx hb htb in_Book hown hK hP 0 rfl rfl 6 (by decide) (htb _ mb_155) (fun _ h9 => h9) rfl d_Book_stepBehindRight_14 ?_
      refine lv_iload_n hx hb d_Book_stepBehindRight_17 rfl (lv_at hl 1 rfl) ?_
      refine va_iald hx hb hK hP 6 1 rfl rfl (oi_in (N := 30) (by decide) c_1 c_2) d_Book_stepBehindRight_18 ?_
      refine lv_goto (tgt := 23) hx hb d_Book_stepBehindRight_19 (by decide) ?_
      have hP9 := hP.sub (ws' := [(oB, .inr (0, [.ref gN, .ref gD, .ref gC, .int rc, .ref gS, .ref gL, .ref gR, .int cc_, .ref gK, .ref gW, .int sc])), (gN, .inl (cJ, 12, .inr (.inl bn))), (gD, .inl (cJ, 12, .inr (.inl bd))), (gC, .inl (cI, 12, .inl bc)), (gS, .inl (cI, 30, .inl bs)), (gL, .inl (cI, 30, .inl bl)), (gR, .inl (cI, 30, .inl br)), (gK, .inl (cI, 120, .inl bk)), (gW, .inl (cJ, 120, .inr (.inl bw)))]) [0, 1, 2, 3, 4, 5, 6, 7, 8] rfl
      have hD9 := hD.sub (ws' := [(oB, .inr (0, [.ref gN, .ref gD, .ref gC, .int rc, .ref gS, .ref gL, .ref gR, .int cc_, .ref gK, .ref gW, .int sc])), (gN, .inl (cJ, 12, .inr (.inl bn))), (gD, .inl (cJ, 12, .inr (.inl bd))), (gC, .inl (cI, 12, .inl bc)), (gS, .inl (cI, 30, .inl bs)), (gL, .inl (cI, 30, .inl bl)), (gR, .inl (cI, 30, .inl br)), (gK, .inl (cI, 120, .inl bk)), (gW, .inl (cJ, 120, .inr (.inl bw)))]) [0, 1, 2, 3, 4, 5, 6, 7, 8] (by decide) rfl
      exact W.iret (v := br nu.toNatClampNeg) hx hb hr (fun t ht hW => ⟨⟨br nu.toNatClampNeg, (), rfl, by rw [hF], by rw [ht]; exact hP9, hD9⟩, hS.F ht⟩) hS.2.2 d_Book_stepBehindRight_23
def f_Book_kindAt (nu : Int32) (bk : (Nat → Int32)) : Int32 := (if nu < 0 then 1 else (if 120 ≤ nu then 1 else bk nu.toNatClampNeg))
abbrev q_Book_kindAt (dC : Nat → ClassId) (dI : Nat → Nat → Nat) (cB cI cJ : ClassId) (oB gN gD gC gS gL gR gK gW : Nat) (nu : Int32) (rc : Int32) (cc_ : Int32) (sc : Int32) (bn : (Nat → Int64)) (bd : (Nat → Int64)) (bc : (Nat → Int32)) (bs : (Nat → Int32)) (bl : (Nat → Int32)) (br : (Nat → Int32)) (bk : (Nat → Int32)) (bw : (Nat → Int64)) (A : Nat → Prop) : Array Value → State → Outcome → State → Prop := va_Qi (fun (r : Int32) (u : Unit) => r = f_Book_kindAt nu bk) (fun u t => va_P (dC, dI) vwCl [(oB, .inr (0, [.ref gN, .ref gD, .ref gC, .int rc, .ref gS, .ref gL, .ref gR, .int cc_, .ref gK, .ref gW, .int sc])), (gN, .inl (cJ, 12, .inr (.inl bn))), (gD, .inl (cJ, 12, .inr (.inl bd))), (gC, .inl (cI, 12, .inl bc)), (gS, .inl (cI, 30, .inl bs)), (gL, .inl (cI, 30, .inl bl)), (gR, .inl (cI, 30, .inl br)), (gK, .inl (cI, 120, .inl bk)), (gW, .inl (cJ, 120, .inr (.inl bw)))] t.heap ∧ va_D A [(oB, .inr (0, [.ref gN, .ref gD, .ref gC, .int rc, .ref gS, .ref gL, .ref gR, .int cc_, .ref gK, .ref gW, .int sc])), (gN, .inl (cJ, 12, .inr (.inl bn))), (gD, .inl (cJ, 12, .inr (.inl bd))), (gC, .inl (cI, 12, .inl bc)), (gS, .inl (cI, 30, .inl bs)), (gL, .inl (cI, 30, .inl bl)), (gR, .inl (cI, 30, .inl br)), (gK, .inl (cI, 120, .inl bk)), (gW, .inl (cJ, 120, .inr (.inl bw)))]) A
set_option maxHeartbeats 4000000 in
set_option maxRecDepth 100000 in
theorem c_Book_kindAt (l : Launch) (dC : Nat → ClassId) (dI : Nat → Nat → Nat) (cB cI cJ : ClassId) (oB gN gD gC gS gL gR gK gW : Nat) (sz : Nat) (nu : Int32) (rc : Int32) (cc_ : Int32) (sc : Int32) (bn : (Nat → Int64)) (bd : (Nat → Int64)) (bc : (Nat → Int32)) (bs : (Nat → Int32)) (bl : (Nat → Int32)) (br : (Nat → Int32)) (bk : (Nat → Int32)) (bw : (Nat → Int64)) : Met l y_Book_kindAt (cw_Book_kindAt :: bgw) { frames := 0, cells := 0, slots := 0, locals := 0 } (va_Pc [.ref oB, .int nu] (kb_B dC dI cB cI cJ [(oB, .inr (0, [.ref gN, .ref gD, .ref gC, .int rc, .ref gS, .ref gL, .ref gR, .int cc_, .ref gK, .ref gW, .int sc])), (gN, .inl (cJ, 12, .inr (.inl bn))), (gD, .inl (cJ, 12, .inr (.inl bd))), (gC, .inl (cI, 12, .inl bc)), (gS, .inl (cI, 30, .inl bs)), (gL, .inl (cI, 30, .inl bl)), (gR, .inl (cI, 30, .inl br)), (gK, .inl (cI, 120, .inl bk)), (gW, .inl (cJ, 120, .inr (.inl bw)))] sz)) (q_Book_kindAt dC dI cB cI cJ oB gN gD gC gS gL gR gK gW nu rc cc_ sc bn bd bc bs bl br bk bw (va_A [(oB, .inr (0, [.ref gN, .ref gD, .ref gC, .int rc, .ref gS, .ref gL, .ref gR, .int cc_, .ref gK, .ref gW, .int sc])), (gN, .inl (cJ, 12, .inr (.inl bn))), (gD, .inl (cJ, 12, .inr (.inl bd))), (gC, .inl (cI, 12, .inl bc)), (gS, .inl (cI, 30, .inl bs)), (gL, .inl (cI, 30, .inl bl)), (gR, .inl (cI, 30, .inl br)), (gK, .inl (cI, 120, .inl bk)), (gW, .inl (cJ, 120, .inr (.inl bw)))] sz)) 0 0 (va_A [(oB, .inr (0, [.ref gN, .ref gD, .ref gC, .int rc, .ref gS, .ref gL, .ref gR, .int cc_, .ref gK, .ref gW, .int sc])), (gN, .inl (cJ, 12, .inr (.inl bn))), (gD, .inl (cJ, 12, .inr (.inl bd))), (gC, .inl (cI, 12, .inl bc)), (gS, .inl (cI, 30, .inl bs)), (gL, .inl (cI, 30, .inl bl)), (gR, .inl (cI, 30, .inl br)), (gK, .inl (cI, 120, .inl bk)), (gW, .inl (cJ, 120, .inr (.inl bw)))] sz) := by
  refine Met.ofW (cc := prog_2_method_15_code) (maxL := 2) (ret := (some .int)) (by decide) rfl ?_
  intro p e s m args below meth c s₁ B hml hv
  obtain ⟨rfl, hsz, hP, hKx, hD0⟩ := hv
  have hx := B.exec
  have hb := B.bytes
  have hr := B.returns
  have hts := atoms_spec (ws := (cw_Book_kindAt :: bgw)) B.pre
  have hown : s.vm.findClass "PermitRules$Book" = some m.cls := findClass_of_methodNamed B.named
  have hlocks := B.notSynchronized
  have htb := fun (w : Cond) (h : w ∈ bgw) => hts w (List.mem_cons_of_mem _ h)
  have hK := hKx.1
  subst hsz
  have hD := hD0.self (sz := s.heap.size)
  generalize hAe : va_A [(oB, .inr (0, [.ref gN, .ref gD, .ref gC, .int rc, .ref gS, .ref gL, .ref gR, .int cc_, .ref gK, .ref gW, .int sc])), (gN, .inl (cJ, 12, .inr (.inl bn))), (gD, .inl (cJ, 12, .inr (.inl bd))), (gC, .inl (cI, 12, .inl bc)), (gS, .inl (cI, 30, .inl bs)), (gL, .inl (cI, 30, .inl bl)), (gR, .inl (cI, 30, .inl br)), (gK, .inl (cI, 120, .inl bk)), (gW, .inl (cJ, 120, .inr (.inl bw)))] s.heap.size = A at hD ⊢
  have hA : ∀ q : Nat, s.heap.size ≤ q → A q := fun q h => by rw [← hAe]; exact Or.inr h
  have hS : va_S A s.heap s.heap [] := va_S.rf
  have hl := lv_entry ([.ref oB, .int nu]) (n := 2) (Nat.le_of_ble_eq_true rfl)
  rw [lg_entry_eq]
  generalize (lg_sl ([.ref oB, .int nu]) ++ List.replicate (2 - (lg_sl ([.ref oB, .int nu])).length) Slot.unset).toArray = ls at hl ⊢
  have hl : lv_has ls 2 [(0, .ref oB), (1, .int nu)] := hl
  have hP : va_P (dC, dI) vwCl [(oB, .inr (0, [.ref gN, .ref gD, .ref gC, .int rc, .ref gS, .ref gL, .ref gR, .int cc_, .ref gK, .ref gW, .int sc])), (gN, .inl (cJ, 12, .inr (.inl bn))), (gD, .inl (cJ, 12, .inr (.inl bd))), (gC, .inl (cI, 12, .inl bc)), (gS, .inl (cI, 30, .inl bs)), (gL, .inl (cI, 30, .inl bl)), (gR, .inl (cI, 30, .inl br)), (gK, .inl (cI, 120, .inl bk)), (gW, .inl (cJ, 120, .inr (.inl bw)))] s.heap := hP
  have hF : f_Book_kindAt nu bk = (if nu < 0 then 1 else (if 120 ≤ nu then 1 else bk nu.toNatClampNeg)) := rfl
  refine lv_iload_n hx hb d_Book_kindAt_0 rfl (lv_at hl 1 rfl) ?_
  refine lv_if_lt (tgt := 22) hx hb d_Book_kindAt_1 (by decide) (fun c_1 => ?_) (fun c_1 => ?_)
  · have hF := hF.trans (if_pos c_1)
    refine lv_iconst (v := 1) hx hb d_Book_kindAt_22 (by decide) ?_
    have hP9 := hP.sub (ws' := [(oB, .inr (0, [.ref gN, .ref gD, .ref gC, .int rc, .ref gS, .ref gL, .ref gR, .int cc_, .ref gK, .ref gW, .int sc])), (gN, .inl (cJ, 12, .inr (.inl bn))), (gD, .inl (cJ, 12, .inr (.inl bd))), (gC, .inl (cI, 12, .inl bc)), (gS, .inl (cI, 30, .inl bs)), (gL, .inl (cI, 30, .inl bl)), (gR, .inl (cI, 30, .inl br)), (gK, .inl (cI, 120, .inl bk)), (gW, .inl (cJ, 120, .inr (.inl bw)))]) [0, 1, 2, 3, 4, 5, 6, 7, 8] rfl
    have hD9 := hD.sub (ws' := [(oB, .inr (0, [.ref gN, .ref gD, .ref gC, .int rc, .ref gS, .ref gL, .ref gR, .int cc_, .ref gK, .ref gW, .int sc])), (gN, .inl (cJ, 12, .inr (.inl bn))), (gD, .inl (cJ, 12, .inr (.inl bd))), (gC, .inl (cI, 12, .inl bc)), (gS, .inl (cI, 30, .inl bs)), (gL, .inl (cI, 30, .inl bl)), (gR, .inl (cI, 30, .inl br)), (gK, .inl (cI, 120, .inl bk)), (gW, .inl (cJ, 120, .inr (.inl bw)))]) [0, 1, 2, 3, 4, 5, 6, 7, 8] (by decide) rfl
    exact W.iret (v := (1 : Int32)) hx hb hr (fun t ht hW => ⟨⟨(1 : Int32), (), rfl, by rw [hF], by rw [ht]; exact hP9, hD9⟩, hS.F ht⟩) hS.2.2 d_Book_kindAt_23
  · have hF := hF.trans (if_neg c_1)
    refine lv_iload_n hx hb d_Book_kindAt_4 rfl (lv_at hl 1 rfl) ?_
    refine lv_aload_n hx hb d_Book_kindAt_5 rfl (lv_at hl 0 rfl) ?_
    refine va_get (D := (dC, dI)) (ci := 0) (v := .ref gK) (C := "PermitRules$Book") (T := T_Book) (N := 11) hx hb htb in_Book hown hK hP 0 rfl rfl 8 (by decide) (htb _ mb_158) (fun _ h9 => h9) rfl d_Book_kindAt_6 ?_
    refine va_alen (v := 120) hx hb hK hP 7 1 rfl rfl (by rfl) d_Book_kindAt_9 ?_
    refine lv_icmp_ge (tgt := 22) hx hb d_Book_kindAt_10 (by decide) (fun c_2 => ?_) (fun c_2 => ?_)
    · have hF := hF.trans (if_pos c_2)
      refine lv_iconst (v := 1) hx hb d_Book_kindAt_22 (by decide) ?_
      have hP9 := hP.sub (ws' := [(oB, .inr (0, [.ref gN, .ref gD, .ref gC, .int rc, .ref gS, .ref gL, .ref gR, .int cc_, .ref gK, .ref gW, .int sc])), (gN, .inl (cJ, 12, .inr (.inl bn))), (gD, .inl (cJ, 12, .inr (.inl bd))), (gC, .inl (cI, 12, .inl bc)), (gS, .inl (cI, 30, .inl bs)), (gL, .inl (cI, 30, .inl bl)), (gR, .inl (cI, 30, .inl br)), (gK, .inl (cI, 120, .inl bk)), (gW, .inl (cJ, 120, .inr (.inl bw)))]) [0, 1, 2, 3, 4, 5, 6, 7, 8] rfl
      have hD9 := hD.sub (ws' := [(oB, .inr (0, [.ref gN, .ref gD, .ref gC, .int rc, .ref gS, .ref gL, .ref gR, .int cc_, .ref gK, .ref gW, .int sc])), (gN, .inl (cJ, 12, .inr (.inl bn))), (gD, .inl (cJ, 12, .inr (.inl bd))), (gC, .inl (cI, 12, .inl bc)), (gS, .inl (cI, 30, .inl bs)), (gL, .inl (cI, 30, .inl bl)), (gR, .inl (cI, 30, .inl br)), (gK, .inl (cI, 120, .inl bk)), (gW, .inl (cJ, 120, .inr (.inl bw)))]) [0, 1, 2, 3, 4, 5, 6, 7, 8] (by decide) rfl
      exact W.iret (v := (1 : Int32)) hx hb hr (fun t ht hW => ⟨⟨(1 : Int32), (), rfl, by rw [hF], by rw [ht]; exact hP9, hD9⟩, hS.F ht⟩) hS.2.2 d_Book_kindAt_23
    · have hF := hF.trans (if_neg c_2)
      refine lv_aload_n hx hb d_Book_kindAt_13 rfl (lv_at hl 0 rfl) ?_
      refine va_get (D := (dC, dI)) (ci := 0) (v := .ref gK) (C := "PermitRules$Book") (T := T_Book) (N := 11) hx hb htb in_Book hown hK hP 0 rfl rfl 8 (by decide) (htb _ mb_158) (fun _ h9 => h9) rfl d_Book_kindAt_14 ?_
      refine lv_iload_n hx hb d_Book_kindAt_17 rfl (lv_at hl 1 rfl) ?_
      refine va_iald hx hb hK hP 7 1 rfl rfl (oi_in (N := 120) (by decide) c_1 c_2) d_Book_kindAt_18 ?_
      refine lv_goto (tgt := 23) hx hb d_Book_kindAt_19 (by decide) ?_
      have hP9 := hP.sub (ws' := [(oB, .inr (0, [.ref gN, .ref gD, .ref gC, .int rc, .ref gS, .ref gL, .ref gR, .int cc_, .ref gK, .ref gW, .int sc])), (gN, .inl (cJ, 12, .inr (.inl bn))), (gD, .inl (cJ, 12, .inr (.inl bd))), (gC, .inl (cI, 12, .inl bc)), (gS, .inl (cI, 30, .inl bs)), (gL, .inl (cI, 30, .inl bl)), (gR, .inl (cI, 30, .inl br)), (gK, .inl (cI, 120, .inl bk)), (gW, .inl (cJ, 120, .inr (.inl bw)))]) [0, 1, 2, 3, 4, 5, 6, 7, 8] rfl
      have hD9 := hD.sub (ws' := [(oB, .inr (0, [.ref gN, .ref gD, .ref gC, .int rc, .ref gS, .ref gL, .ref gR, .int cc_, .ref gK, .ref gW, .int sc])), (gN, .inl (cJ, 12, .inr (.inl bn))), (gD, .inl (cJ, 12, .inr (.inl bd))), (gC, .inl (cI, 12, .inl bc)), (gS, .inl (cI, 30, .inl bs)), (gL, .inl (cI, 30, .inl bl)), (gR, .inl (cI, 30, .inl br)), (gK, .inl (cI, 120, .inl bk)), (gW, .inl (cJ, 120, .inr (.inl bw)))]) [0, 1, 2, 3, 4, 5, 6, 7, 8] (by decide) rfl
      exact W.iret (v := bk nu.toNatClampNeg) hx hb hr (fun t ht hW => ⟨⟨bk nu.toNatClampNeg, (), rfl, by rw [hF], by rw [ht]; exact hP9, hD9⟩, hS.F ht⟩) hS.2.2 d_Book_kindAt_23
def f_Book_firstClauseOf (nu : Int32) (bc : (Nat → Int32)) : Int32 := (lt_ (f_Book_clauseBehind (nu - 1) bc) fun z_1 => z_1)
abbrev q_Book_firstClauseOf (dC : Nat → ClassId) (dI : Nat → Nat → Nat) (cB cI cJ : ClassId) (oB gN gD gC gS gL gR gK gW : Nat) (nu : Int32) (rc : Int32) (cc_ : Int32) (sc : Int32) (bn : (Nat → Int64)) (bd : (Nat → Int64)) (bc : (Nat → Int32)) (bs : (Nat → Int32)) (bl : (Nat → Int32)) (br : (Nat → Int32)) (bk : (Nat → Int32)) (bw : (Nat → Int64)) (A : Nat → Prop) : Array Value → State → Outcome → State → Prop := va_Qi (fun (r : Int32) (u : Unit) => r = f_Book_firstClauseOf nu bc) (fun u t => va_P (dC, dI) vwCl [(oB, .inr (0, [.ref gN, .ref gD, .ref gC, .int rc, .ref gS, .ref gL, .ref gR, .int cc_, .ref gK, .ref gW, .int sc])), (gN, .inl (cJ, 12, .inr (.inl bn))), (gD, .inl (cJ, 12, .inr (.inl bd))), (gC, .inl (cI, 12, .inl bc)), (gS, .inl (cI, 30, .inl bs)), (gL, .inl (cI, 30, .inl bl)), (gR, .inl (cI, 30, .inl br)), (gK, .inl (cI, 120, .inl bk)), (gW, .inl (cJ, 120, .inr (.inl bw)))] t.heap ∧ va_D A [(oB, .inr (0, [.ref gN, .ref gD, .ref gC, .int rc, .ref gS, .ref gL, .ref gR, .int cc_, .ref gK, .ref gW, .int sc])), (gN, .inl (cJ, 12, .inr (.inl bn))), (gD, .inl (cJ, 12, .inr (.inl bd))), (gC, .inl (cI, 12, .inl bc)), (gS, .inl (cI, 30, .inl bs)), (gL, .inl (cI, 30, .inl bl)), (gR, .inl (cI, 30, .inl br)), (gK, .inl (cI, 120, .inl bk)), (gW, .inl (cJ, 120, .inr (.inl bw)))]) A
set_option maxHeartbeats 4000000 in
set_option maxRecDepth 100000 in
theorem c_Book_firstClauseOf (l : Launch) (dC : Nat → ClassId) (dI : Nat → Nat → Nat) (cB cI cJ : ClassId) (oB gN gD gC gS gL gR gK gW : Nat) (sz : Nat) (nu : Int32) (rc : Int32) (cc_ : Int32) (sc : Int32) (bn : (Nat → Int64)) (bd : (Nat → Int64)) (bc : (Nat → Int32)) (bs : (Nat → Int32)) (bl : (Nat → Int32)) (br : (Nat → Int32)) (bk : (Nat → Int32)) (bw : (Nat → Int64)) : Met l y_Book_firstClauseOf (cw_Book_firstClauseOf :: bgw) { frames := 1, cells := 0, slots := 0, locals := 21 } (va_Pc [.ref oB, .int nu] (kb_B dC dI cB cI cJ [(oB, .inr (0, [.ref gN, .ref gD, .ref gC, .int rc, .ref gS, .ref gL, .ref gR, .int cc_, .ref gK, .ref gW, .int sc])), (gN, .inl (cJ, 12, .inr (.inl bn))), (gD, .inl (cJ, 12, .inr (.inl bd))), (gC, .inl (cI, 12, .inl bc)), (gS, .inl (cI, 30, .inl bs)), (gL, .inl (cI, 30, .inl bl)), (gR, .inl (cI, 30, .inl br)), (gK, .inl (cI, 120, .inl bk)), (gW, .inl (cJ, 120, .inr (.inl bw)))] sz)) (q_Book_firstClauseOf dC dI cB cI cJ oB gN gD gC gS gL gR gK gW nu rc cc_ sc bn bd bc bs bl br bk bw (va_A [(oB, .inr (0, [.ref gN, .ref gD, .ref gC, .int rc, .ref gS, .ref gL, .ref gR, .int cc_, .ref gK, .ref gW, .int sc])), (gN, .inl (cJ, 12, .inr (.inl bn))), (gD, .inl (cJ, 12, .inr (.inl bd))), (gC, .inl (cI, 12, .inl bc)), (gS, .inl (cI, 30, .inl bs)), (gL, .inl (cI, 30, .inl bl)), (gR, .inl (cI, 30, .inl br)), (gK, .inl (cI, 120, .inl bk)), (gW, .inl (cJ, 120, .inr (.inl bw)))] sz)) 0 0 (va_A [(oB, .inr (0, [.ref gN, .ref gD, .ref gC, .int rc, .ref gS, .ref gL, .ref gR, .int cc_, .ref gK, .ref gW, .int sc])), (gN, .inl (cJ, 12, .inr (.inl bn))), (gD, .inl (cJ, 12, .inr (.inl bd))), (gC, .inl (cI, 12, .inl bc)), (gS, .inl (cI, 30, .inl bs)), (gL, .inl (cI, 30, .inl bl)), (gR, .inl (cI, 30, .inl br)), (gK, .inl (cI, 120, .inl bk)), (gW, .inl (cJ, 120, .inr (.inl bw)))] sz) := by
  refine Met.ofW (cc := prog_2_method_9_code) (maxL := 2) (ret := (some .int)) (by decide) rfl ?_
  intro p e s m args below meth c s₁ B hml hv
  obtain ⟨rfl, hsz, hP, hKx, hD0⟩ := hv
  have hx := B.exec
  have hb := B.bytes
  have hr := B.returns
  have hts := atoms_spec (ws := (cw_Book_firstClauseOf :: bgw)) B.pre
  have hown : s.vm.findClass "PermitRules$Book" = some m.cls := findClass_of_methodNamed B.named
  have hlocks := B.notSynchronized
  have htb := fun (w : Cond) (h : w ∈ bgw) => hts w (List.mem_cons_of_mem _ h)
  have hK := hKx.1
  subst hsz
  have hD := hD0.self (sz := s.heap.size)
  generalize hAe : va_A [(oB, .inr (0, [.ref gN, .ref gD, .ref gC, .int rc, .ref gS, .ref gL, .ref gR, .int cc_, .ref gK, .ref gW, .int sc])), (gN, .inl (cJ, 12, .inr (.inl bn))), (gD, .inl (cJ, 12, .inr (.inl bd))), (gC, .inl (cI, 12, .inl bc)), (gS, .inl (cI, 30, .inl bs)), (gL, .inl (cI, 30, .inl bl)), (gR, .inl (cI, 30, .inl br)), (gK, .inl (cI, 120, .inl bk)), (gW, .inl (cJ, 120, .inr (.inl bw)))] s.heap.size = A at hD ⊢
  have hA : ∀ q : Nat, s.heap.size ≤ q → A q := fun q h => by rw [← hAe]; exact Or.inr h
  have hS : va_S A s.heap s.heap [] := va_S.rf
  have hl := lv_entry ([.ref oB, .int nu]) (n := 2) (Nat.le_of_ble_eq_true rfl)
  rw [lg_entry_eq]
  generalize (lg_sl ([.ref oB, .int nu]) ++ List.replicate (2 - (lg_sl ([.ref oB, .int nu])).length) Slot.unset).toArray = ls at hl ⊢
  have hl : lv_has ls 2 [(0, .ref oB), (1, .int nu)] := hl
  have hP : va_P (dC, dI) vwCl [(oB, .inr (0, [.ref gN, .ref gD, .ref gC, .int rc, .ref gS, .ref gL, .ref gR, .int cc_, .ref gK, .ref gW, .int sc])), (gN, .inl (cJ, 12, .inr (.inl bn))), (gD, .inl (cJ, 12, .inr (.inl bd))), (gC, .inl (cI, 12, .inl bc)), (gS, .inl (cI, 30, .inl bs)), (gL, .inl (cI, 30, .inl bl)), (gR, .inl (cI, 30, .inl br)), (gK, .inl (cI, 120, .inl bk)), (gW, .inl (cJ, 120, .inr (.inl bw)))] s.heap := hP
  have hF : f_Book_firstClauseOf nu bc = (lt_ (f_Book_clauseBehind (nu - 1) bc) fun z_1 => z_1) := rfl
  refine lv_aload_n hx hb d_Book_firstClauseOf_0 rfl (lv_at hl 0 rfl) ?_
  refine lv_iload_n hx hb d_Book_firstClauseOf_1 rfl (lv_at hl 1 rfl) ?_
  refine lv_iconst (v := 1) hx hb d_Book_firstClauseOf_2 (by decide) ?_
  refine lv_isub hx hb d_Book_firstClauseOf_3 ?_
  have hPc := hP.sub (ws' := [(oB, .inr (0, [.ref gN, .ref gD, .ref gC, .int rc, .ref gS, .ref gL, .ref gR, .int cc_, .ref gK, .ref gW, .int sc])), (gN, .inl (cJ, 12, .inr (.inl bn))), (gD, .inl (cJ, 12, .inr (.inl bd))), (gC, .inl (cI, 12, .inl bc)), (gS, .inl (cI, 30, .inl bs)), (gL, .inl (cI, 30, .inl bl)), (gR, .inl (cI, 30, .inl br)), (gK, .inl (cI, 120, .inl bk)), (gW, .inl (cJ, 120, .inr (.inl bw)))]) [0, 1, 2, 3, 4, 5, 6, 7, 8] rfl
  have hDc := hD.sub (ws' := [(oB, .inr (0, [.ref gN, .ref gD, .ref gC, .int rc, .ref gS, .ref gL, .ref gR, .int cc_, .ref gK, .ref gW, .int sc])), (gN, .inl (cJ, 12, .inr (.inl bn))), (gD, .inl (cJ, 12, .inr (.inl bd))), (gC, .inl (cI, 12, .inl bc)), (gS, .inl (cI, 30, .inl bs)), (gL, .inl (cI, 30, .inl bl)), (gR, .inl (cI, 30, .inl br)), (gK, .inl (cI, 120, .inl bk)), (gW, .inl (cJ, 120, .inr (.inl bw)))]) [0, 1, 2, 3, 4, 5, 6, 7, 8] (by decide) rfl
  have hFc := va_free (wc := [(oB, .inr (0, [.ref gN, .ref gD, .ref gC, .int rc, .ref gS, .ref gL, .ref gR, .int cc_, .ref gK, .ref gW, .int sc])), (gN, .inl (cJ, 12, .inr (.inl bn))), (gD, .inl (cJ, 12, .inr (.inl bd))), (gC, .inl (cI, 12, .inl bc)), (gS, .inl (cI, 30, .inl bs)), (gL, .inl (cI, 30, .inl bl)), (gR, .inl (cI, 30, .inl br)), (gK, .inl (cI, 120, .inl bk)), (gW, .inl (cJ, 120, .inr (.inl bw)))]) hD hS hA [0, 1, 2, 3, 4, 5, 6, 7, 8] rfl
  refine va_calli (va_runV (As := [.int (nu - 1)]) (rest := []) ⟨hx, hb, hml, hown, htb⟩ (c_Book_clauseBehind l dC dI cB cI cJ oB gN gD gC gS gL gR gK gW _ (nu - 1) rc cc_ sc bn bd bc bs bl br bk bw ) ⟨callB_of 1 htb (gb_all mb_503) rfl rfl rfl (htb _ mb_8) (htb _ mb_500) (by decide +kernel) ⟨Nat.le_of_ble_eq_true rfl, Nat.le_of_ble_eq_true rfl⟩, htb _ mb_501, htb _ mb_502⟩ ⟨kb_blind, va_recv hK hPc (ci := 0) (q0 := 0) rfl rfl, kb_at hPc hDc hKx⟩ rfl rfl hl.1 rfl (lv_room (Nat.le_of_ble_eq_true rfl)) d_Book_firstClauseOf_4 ⟨Nat.le_of_ble_eq_true rfl, Nat.le_of_ble_eq_true rfl⟩) hS (fun q _ h => hFc q h) hFc (fun z_1 u t H1 locs ht hvm hw hB hz1 hk1 hS => ?_)
  have hz_1 := hw
  have hF := hF.trans (lt_e hz_1)
  obtain ⟨hP1, hD1⟩ := hB
  rw [ht] at hP1
  obtain ⟨hP, hD⟩ := va_join (wr := []) (w1 := [(oB, .inr (0, [.ref gN, .ref gD, .ref gC, .int rc, .ref gS, .ref gL, .ref gR, .int cc_, .ref gK, .ref gW, .int sc])), (gN, .inl (cJ, 12, .inr (.inl bn))), (gD, .inl (cJ, 12, .inr (.inl bd))), (gC, .inl (cI, 12, .inl bc)), (gS, .inl (cI, 30, .inl bs)), (gL, .inl (cI, 30, .inl bl)), (gR, .inl (cI, 30, .inl br)), (gK, .inl (cI, 120, .inl bk)), (gW, .inl (cJ, 120, .inr (.inl bw)))]) hP hD [0, 1, 2, 3, 4, 5, 6, 7, 8] [] rfl rfl (by decide) (by decide) hk1 hFc hP1 hD1
  generalize H1 = H at hP hS ⊢
  have hP : va_P (dC, dI) vwCl [(oB, .inr (0, [.ref gN, .ref gD, .ref gC, .int rc, .ref gS, .ref gL, .ref gR, .int cc_, .ref gK, .ref gW, .int sc])), (gN, .inl (cJ, 12, .inr (.inl bn))), (gD, .inl (cJ, 12, .inr (.inl bd))), (gC, .inl (cI, 12, .inl bc)), (gS, .inl (cI, 30, .inl bs)), (gL, .inl (cI, 30, .inl bl)), (gR, .inl (cI, 30, .inl br)), (gK, .inl (cI, 120, .inl bk)), (gW, .inl (cJ, 120, .inr (.inl bw)))] H := hP
  have hD : va_D A [(oB, .inr (0, [.ref gN, .ref gD, .ref gC, .int rc, .ref gS, .ref gL, .ref gR, .int cc_, .ref gK, .ref gW, .int sc])), (gN, .inl (cJ, 12, .inr (.inl bn))), (gD, .inl (cJ, 12, .inr (.inl bd))), (gC, .inl (cI, 12, .inl bc)), (gS, .inl (cI, 30, .inl bs)), (gL, .inl (cI, 30, .inl bl)), (gR, .inl (cI, 30, .inl br)), (gK, .inl (cI, 120, .inl bk)), (gW, .inl (cJ, 120, .inr (.inl bw)))] := hD
  have hP9 := hP.sub (ws' := [(oB, .inr (0, [.ref gN, .ref gD, .ref gC, .int rc, .ref gS, .ref gL, .ref gR, .int cc_, .ref gK, .ref gW, .int sc])), (gN, .inl (cJ, 12, .inr (.inl bn))), (gD, .inl (cJ, 12, .inr (.inl bd))), (gC, .inl (cI, 12, .inl bc)), (gS, .inl (cI, 30, .inl bs)), (gL, .inl (cI, 30, .inl bl)), (gR, .inl (cI, 30, .inl br)), (gK, .inl (cI, 120, .inl bk)), (gW, .inl (cJ, 120, .inr (.inl bw)))]) [0, 1, 2, 3, 4, 5, 6, 7, 8] rfl
  have hD9 := hD.sub (ws' := [(oB, .inr (0, [.ref gN, .ref gD, .ref gC, .int rc, .ref gS, .ref gL, .ref gR, .int cc_, .ref gK, .ref gW, .int sc])), (gN, .inl (cJ, 12, .inr (.inl bn))), (gD, .inl (cJ, 12, .inr (.inl bd))), (gC, .inl (cI, 12, .inl bc)), (gS, .inl (cI, 30, .inl bs)), (gL, .inl (cI, 30, .inl bl)), (gR, .inl (cI, 30, .inl br)), (gK, .inl (cI, 120, .inl bk)), (gW, .inl (cJ, 120, .inr (.inl bw)))]) [0, 1, 2, 3, 4, 5, 6, 7, 8] (by decide) rfl
  exact W.iret (v := z_1) hx hb hr (fun t ht hW => ⟨⟨z_1, (), rfl, by rw [hF], by rw [ht]; exact hP9, hD9⟩, hS.F ht⟩) hS.2.2 d_Book_firstClauseOf_7
def f_Book_firstStepOf (nu : Int32) (br : (Nat → Int32)) : Int32 := (lt_ (f_Book_stepBehindRight (nu - 1) br) fun z_1 => z_1)
abbrev q_Book_firstStepOf (dC : Nat → ClassId) (dI : Nat → Nat → Nat) (cB cI cJ : ClassId) (oB gN gD gC gS gL gR gK gW : Nat) (nu : Int32) (rc : Int32) (cc_ : Int32) (sc : Int32) (bn : (Nat → Int64)) (bd : (Nat → Int64)) (bc : (Nat → Int32)) (bs : (Nat → Int32)) (bl : (Nat → Int32)) (br : (Nat → Int32)) (bk : (Nat → Int32)) (bw : (Nat → Int64)) (A : Nat → Prop) : Array Value → State → Outcome → State → Prop := va_Qi (fun (r : Int32) (u : Unit) => r = f_Book_firstStepOf nu br) (fun u t => va_P (dC, dI) vwCl [(oB, .inr (0, [.ref gN, .ref gD, .ref gC, .int rc, .ref gS, .ref gL, .ref gR, .int cc_, .ref gK, .ref gW, .int sc])), (gN, .inl (cJ, 12, .inr (.inl bn))), (gD, .inl (cJ, 12, .inr (.inl bd))), (gC, .inl (cI, 12, .inl bc)), (gS, .inl (cI, 30, .inl bs)), (gL, .inl (cI, 30, .inl bl)), (gR, .inl (cI, 30, .inl br)), (gK, .inl (cI, 120, .inl bk)), (gW, .inl (cJ, 120, .inr (.inl bw)))] t.heap ∧ va_D A [(oB, .inr (0, [.ref gN, .ref gD, .ref gC, .int rc, .ref gS, .ref gL, .ref gR, .int cc_, .ref gK, .ref gW, .int sc])), (gN, .inl (cJ, 12, .inr (.inl bn))), (gD, .inl (cJ, 12, .inr (.inl bd))), (gC, .inl (cI, 12, .inl bc)), (gS, .inl (cI, 30, .inl bs)), (gL, .inl (cI, 30, .inl bl)), (gR, .inl (cI, 30, .inl br)), (gK, .inl (cI, 120, .inl bk)), (gW, .inl (cJ, 120, .inr (.inl bw)))]) A
set_option maxHeartbeats 4000000 in
set_option maxRecDepth 100000 in
theorem c_Book_firstStepOf (l : Launch) (dC : Nat → ClassId) (dI : Nat → Nat → Nat) (cB cI cJ : ClassId) (oB gN gD gC gS gL gR gK gW : Nat) (sz : Nat) (nu : Int32) (rc : Int32) (cc_ : Int32) (sc : Int32) (bn : (Nat → Int64)) (bd : (Nat → Int64)) (bc : (Nat → Int32)) (bs : (Nat → Int32)) (bl : (Nat → Int32)) (br : (Nat → Int32)) (bk : (Nat → Int32)) (bw : (Nat → Int64)) : Met l y_Book_firstStepOf (cw_Book_firstStepOf :: bgw) { frames := 1, cells := 0, slots := 0, locals := 21 } (va_Pc [.ref oB, .int nu] (kb_B dC dI cB cI cJ [(oB, .inr (0, [.ref gN, .ref gD, .ref gC, .int rc, .ref gS, .ref gL, .ref gR, .int cc_, .ref gK, .ref gW, .int sc])), (gN, .inl (cJ, 12, .inr (.inl bn))), (gD, .inl (cJ, 12, .inr (.inl bd))), (gC, .inl (cI, 12, .inl bc)), (gS, .inl (cI, 30, .inl bs)), (gL, .inl (cI, 30, .inl bl)), (gR, .inl (cI, 30, .inl br)), (gK, .inl (cI, 120, .inl bk)), (gW, .inl (cJ, 120, .inr (.inl bw)))] sz)) (q_Book_firstStepOf dC dI cB cI cJ oB gN gD gC gS gL gR gK gW nu rc cc_ sc bn bd bc bs bl br bk bw (va_A [(oB, .inr (0, [.ref gN, .ref gD, .ref gC, .int rc, .ref gS, .ref gL, .ref gR, .int cc_, .ref gK, .ref gW, .int sc])), (gN, .inl (cJ, 12, .inr (.inl bn))), (gD, .inl (cJ, 12, .inr (.inl bd))), (gC, .inl (cI, 12, .inl bc)), (gS, .inl (cI, 30, .inl bs)), (gL, .inl (cI, 30, .inl bl)), (gR, .inl (cI, 30, .inl br)), (gK, .inl (cI, 120, .inl bk)), (gW, .inl (cJ, 120, .inr (.inl bw)))] sz)) 0 0 (va_A [(oB, .inr (0, [.ref gN, .ref gD, .ref gC, .int rc, .ref gS, .ref gL, .ref gR, .int cc_, .ref gK, .ref gW, .int sc])), (gN, .inl (cJ, 12, .inr (.inl bn))), (gD, .inl (cJ, 12, .inr (.inl bd))), (gC, .inl (cI, 12, .inl bc)), (gS, .inl (cI, 30, .inl bs)), (gL, .inl (cI, 30, .inl bl)), (gR, .inl (cI, 30, .inl br)), (gK, .inl (cI, 120, .inl bk)), (gW, .inl (cJ, 120, .inr (.inl bw)))] sz) := by
  refine Met.ofW (cc := prog_2_method_12_code) (maxL := 2) (ret := (some .int)) (by decide) rfl ?_
  intro p e s m args below meth c s₁ B hml hv
  obtain ⟨rfl, hsz, hP, hKx, hD0⟩ := hv
  have hx := B.exec
  have hb := B.bytes
  have hr := B.returns
  have hts := atoms_spec (ws := (cw_Book_firstStepOf :: bgw)) B.pre
  have hown : s.vm.findClass "PermitRules$Book" = some m.cls := findClass_of_methodNamed B.named
  have hlocks := B.notSynchronized
  have htb := fun (w : Cond) (h : w ∈ bgw) => hts w (List.mem_cons_of_mem _ h)
  have hK := hKx.1
  subst hsz
  have hD := hD0.self (sz := s.heap.size)
  generalize hAe : va_A [(oB, .inr (0, [.ref gN, .ref gD, .ref gC, .int rc, .ref gS, .ref gL, .ref gR, .int cc_, .ref gK, .ref gW, .int sc])), (gN, .inl (cJ, 12, .inr (.inl bn))), (gD, .inl (cJ, 12, .inr (.inl bd))), (gC, .inl (cI, 12, .inl bc)), (gS, .inl (cI, 30, .inl bs)), (gL, .inl (cI, 30, .inl bl)), (gR, .inl (cI, 30, .inl br)), (gK, .inl (cI, 120, .inl bk)), (gW, .inl (cJ, 120, .inr (.inl bw)))] s.heap.size = A at hD ⊢
  have hA : ∀ q : Nat, s.heap.size ≤ q → A q := fun q h => by rw [← hAe]; exact Or.inr h
  have hS : va_S A s.heap s.heap [] := va_S.rf
  have hl := lv_entry ([.ref oB, .int nu]) (n := 2) (Nat.le_of_ble_eq_true rfl)
  rw [lg_entry_eq]
  generalize (lg_sl ([.ref oB, .int nu]) ++ List.replicate (2 - (lg_sl ([.ref oB, .int nu])).length) Slot.unset).toArray = ls at hl ⊢
  have hl : lv_has ls 2 [(0, .ref oB), (1, .int nu)] := hl
  have hP : va_P (dC, dI) vwCl [(oB, .inr (0, [.ref gN, .ref gD, .ref gC, .int rc, .ref gS, .ref gL, .ref gR, .int cc_, .ref gK, .ref gW, .int sc])), (gN, .inl (cJ, 12, .inr (.inl bn))), (gD, .inl (cJ, 12, .inr (.inl bd))), (gC, .inl (cI, 12, .inl bc)), (gS, .inl (cI, 30, .inl bs)), (gL, .inl (cI, 30, .inl bl)), (gR, .inl (cI, 30, .inl br)), (gK, .inl (cI, 120, .inl bk)), (gW, .inl (cJ, 120, .inr (.inl bw)))] s.heap := hP
  have hF : f_Book_firstStepOf nu br = (lt_ (f_Book_stepBehindRight (nu - 1) br) fun z_1 => z_1) := rfl
  refine lv_aload_n hx hb d_Book_firstStepOf_0 rfl (lv_at hl 0 rfl) ?_
  refine lv_iload_n hx hb d_Book_firstStepOf_1 rfl (lv_at hl 1 rfl) ?_
  refine lv_iconst (v := 1) hx hb d_Book_firstStepOf_2 (by decide) ?_
  refine lv_isub hx hb d_Book_firstStepOf_3 ?_
  have hPc := hP.sub (ws' := [(oB, .inr (0, [.ref gN, .ref gD, .ref gC, .int rc, .ref gS, .ref gL, .ref gR, .int cc_, .ref gK, .ref gW, .int sc])), (gN, .inl (cJ, 12, .inr (.inl bn))), (gD, .inl (cJ, 12, .inr (.inl bd))), (gC, .inl (cI, 12, .inl bc)), (gS, .inl (cI, 30, .inl bs)), (gL, .inl (cI, 30, .inl bl)), (gR, .inl (cI, 30, .inl br)), (gK, .inl (cI, 120, .inl bk)), (gW, .inl (cJ, 120, .inr (.inl bw)))]) [0, 1, 2, 3, 4, 5, 6, 7, 8] rfl
  have hDc := hD.sub (ws' := [(oB, .inr (0, [.ref gN, .ref gD, .ref gC, .int rc, .ref gS, .ref gL, .ref gR, .int cc_, .ref gK, .ref gW, .int sc])), (gN, .inl (cJ, 12, .inr (.inl bn))), (gD, .inl (cJ, 12, .inr (.inl bd))), (gC, .inl (cI, 12, .inl bc)), (gS, .inl (cI, 30, .inl bs)), (gL, .inl (cI, 30, .inl bl)), (gR, .inl (cI, 30, .inl br)), (gK, .inl (cI, 120, .inl bk)), (gW, .inl (cJ, 120, .inr (.inl bw)))]) [0, 1, 2, 3, 4, 5, 6, 7, 8] (by decide) rfl
  have hFc := va_free (wc := [(oB, .inr (0, [.ref gN, .ref gD, .ref gC, .int rc, .ref gS, .ref gL, .ref gR, .int cc_, .ref gK, .ref gW, .int sc])), (gN, .inl (cJ, 12, .inr (.inl bn))), (gD, .inl (cJ, 12, .inr (.inl bd))), (gC, .inl (cI, 12, .inl bc)), (gS, .inl (cI, 30, .inl bs)), (gL, .inl (cI, 30, .inl bl)), (gR, .inl (cI, 30, .inl br)), (gK, .inl (cI, 120, .inl bk)), (gW, .inl (cJ, 120, .inr (.inl bw)))]) hD hS hA [0, 1, 2, 3, 4, 5, 6, 7, 8] rfl
  refine va_calli (va_runV (As := [.int (nu - 1)]) (rest := []) ⟨hx, hb, hml, hown, htb⟩ (c_Book_stepBehindRight l dC dI cB cI cJ oB gN gD gC gS gL gR gK gW _ (nu - 1) rc cc_ sc bn bd bc bs bl br bk bw ) ⟨callB_of 1 htb (gb_all mb_520) rfl rfl rfl (htb _ mb_8) (htb _ mb_517) (by decide +kernel) ⟨Nat.le_of_ble_eq_true rfl, Nat.le_of_ble_eq_true rfl⟩, htb _ mb_518, htb _ mb_519⟩ ⟨kb_blind, va_recv hK hPc (ci := 0) (q0 := 0) rfl rfl, kb_at hPc hDc hKx⟩ rfl rfl hl.1 rfl (lv_room (Nat.le_of_ble_eq_true rfl)) d_Book_firstStepOf_4 ⟨Nat.le_of_ble_eq_true rfl, Nat.le_of_ble_eq_true rfl⟩) hS (fun q _ h => hFc q h) hFc (fun z_1 u t H1 locs ht hvm hw hB hz1 hk1 hS => ?_)
  have hz_1 := hw
  have hF := hF.trans (lt_e hz_1)
  obtain ⟨hP1, hD1⟩ := hB
  rw [ht] at hP1
  obtain ⟨hP, hD⟩ := va_join (wr := []) (w1 := [(oB, .inr (0, [.ref gN, .ref gD, .ref gC, .int rc, .ref gS, .ref gL, .ref gR, .int cc_, .ref gK, .ref gW, .int sc])), (gN, .inl (cJ, 12, .inr (.inl bn))), (gD, .inl (cJ, 12, .inr (.inl bd))), (gC, .inl (cI, 12, .inl bc)), (gS, .inl (cI, 30, .inl bs)), (gL, .inl (cI, 30, .inl bl)), (gR, .inl (cI, 30, .inl br)), (gK, .inl (cI, 120, .inl bk)), (gW, .inl (cJ, 120, .inr (.inl bw)))]) hP hD [0, 1, 2, 3, 4, 5, 6, 7, 8] [] rfl rfl (by decide) (by decide) hk1 hFc hP1 hD1
  generalize H1 = H at hP hS ⊢
  have hP : va_P (dC, dI) vwCl [(oB, .inr (0, [.ref gN, .ref gD, .ref gC, .int rc, .ref gS, .ref gL, .ref gR, .int cc_, .ref gK, .ref gW, .int sc])), (gN, .inl (cJ, 12, .inr (.inl bn))), (gD, .inl (cJ, 12, .inr (.inl bd))), (gC, .inl (cI, 12, .inl bc)), (gS, .inl (cI, 30, .inl bs)), (gL, .inl (cI, 30, .inl bl)), (gR, .inl (cI, 30, .inl br)), (gK, .inl (cI, 120, .inl bk)), (gW, .inl (cJ, 120, .inr (.inl bw)))] H := hP
  have hD : va_D A [(oB, .inr (0, [.ref gN, .ref gD, .ref gC, .int rc, .ref gS, .ref gL, .ref gR, .int cc_, .ref gK, .ref gW, .int sc])), (gN, .inl (cJ, 12, .inr (.inl bn))), (gD, .inl (cJ, 12, .inr (.inl bd))), (gC, .inl (cI, 12, .inl bc)), (gS, .inl (cI, 30, .inl bs)), (gL, .inl (cI, 30, .inl bl)), (gR, .inl (cI, 30, .inl br)), (gK, .inl (cI, 120, .inl bk)), (gW, .inl (cJ, 120, .inr (.inl bw)))] := hD
  have hP9 := hP.sub (ws' := [(oB, .inr (0, [.ref gN, .ref gD, .ref gC, .int rc, .ref gS, .ref gL, .ref gR, .int cc_, .ref gK, .ref gW, .int sc])), (gN, .inl (cJ, 12, .inr (.inl bn))), (gD, .inl (cJ, 12, .inr (.inl bd))), (gC, .inl (cI, 12, .inl bc)), (gS, .inl (cI, 30, .inl bs)), (gL, .inl (cI, 30, .inl bl)), (gR, .inl (cI, 30, .inl br)), (gK, .inl (cI, 120, .inl bk)), (gW, .inl (cJ, 120, .inr (.inl bw)))]) [0, 1, 2, 3, 4, 5, 6, 7, 8] rfl
  have hD9 := hD.sub (ws' := [(oB, .inr (0, [.ref gN, .ref gD, .ref gC, .int rc, .ref gS, .ref gL, .ref gR, .int cc_, .ref gK, .ref gW, .int sc])), (gN, .inl (cJ, 12, .inr (.inl bn))), (gD, .inl (cJ, 12, .inr (.inl bd))), (gC, .inl (cI, 12, .inl bc)), (gS, .inl (cI, 30, .inl bs)), (gL, .inl (cI, 30, .inl bl)), (gR, .inl (cI, 30, .inl br)), (gK, .inl (cI, 120, .inl bk)), (gW, .inl (cJ, 120, .inr (.inl bw)))]) [0, 1, 2, 3, 4, 5, 6, 7, 8] (by decide) rfl
  exact W.iret (v := z_1) hx hb hr (fun t ht hW => ⟨⟨z_1, (), rfl, by rw [hF], by rw [ht]; exact hP9, hD9⟩, hS.F ht⟩) hS.2.2 d_Book_firstStepOf_7
def f_Book_worthAt (nu : Int32) (bw : (Nat → Int64)) : Int64 := (if nu < 0 then 0 else (if 120 ≤ nu then 0 else bw nu.toNatClampNeg))
abbrev q_Book_worthAt (dC : Nat → ClassId) (dI : Nat → Nat → Nat) (cB cI cJ : ClassId) (oB gN gD gC gS gL gR gK gW : Nat) (nu : Int32) (rc : Int32) (cc_ : Int32) (sc : Int32) (bn : (Nat → Int64)) (bd : (Nat → Int64)) (bc : (Nat → Int32)) (bs : (Nat → Int32)) (bl : (Nat → Int32)) (br : (Nat → Int32)) (bk : (Nat → Int32)) (bw : (Nat → Int64)) (A : Nat → Prop) : Array Value → State → Outcome → State → Prop := va_Ql (fun (r : Int64) (u : Unit) => r = f_Book_worthAt nu bw) (fun u t => va_P (dC, dI) vwCl [(oB, .inr (0, [.ref gN, .ref gD, .ref gC, .int rc, .ref gS, .ref gL, .ref gR, .int cc_, .ref gK, .ref gW, .int sc])), (gN, .inl (cJ, 12, .inr (.inl bn))), (gD, .inl (cJ, 12, .inr (.inl bd))), (gC, .inl (cI, 12, .inl bc)), (gS, .inl (cI, 30, .inl bs)), (gL, .inl (cI, 30, .inl bl)), (gR, .inl (cI, 30, .inl br)), (gK, .inl (cI, 120, .inl bk)), (gW, .inl (cJ, 120, .inr (.inl bw)))] t.heap ∧ va_D A [(oB, .inr (0, [.ref gN, .ref gD, .ref gC, .int rc, .ref gS, .ref gL, .ref gR, .int cc_, .ref gK, .ref gW, .int sc])), (gN, .inl (cJ, 12, .inr (.inl bn))), (gD, .inl (cJ, 12, .inr (.inl bd))), (gC, .inl (cI, 12, .inl bc)), (gS, .inl (cI, 30, .inl bs)), (gL, .inl (cI, 30, .inl bl)), (gR, .inl (cI, 30, .inl br)), (gK, .inl (cI, 120, .inl bk)), (gW, .inl (cJ, 120, .inr (.inl bw)))]) A
set_option maxHeartbeats 4000000 in
set_option maxRecDepth 100000 in
theorem c_Book_worthAt (l : Launch) (dC : Nat → ClassId) (dI : Nat → Nat → Nat) (cB cI cJ : ClassId) (oB gN gD gC gS gL gR gK gW : Nat) (sz : Nat) (nu : Int32) (rc : Int32) (cc_ : Int32) (sc : Int32) (bn : (Nat → Int64)) (bd : (Nat → Int64)) (bc : (Nat → Int32)) (bs : (Nat → Int32)) (bl : (Nat → Int32)) (br : (Nat → Int32)) (bk : (Nat → Int32)) (bw : (Nat → Int64)) : Met l y_Book_worthAt (cw_Book_worthAt :: bgw) { frames := 0, cells := 0, slots := 0, locals := 0 } (va_Pc [.ref oB, .int nu] (kb_B dC dI cB cI cJ [(oB, .inr (0, [.ref gN, .ref gD, .ref gC, .int rc, .ref gS, .ref gL, .ref gR, .int cc_, .ref gK, .ref gW, .int sc])), (gN, .inl (cJ, 12, .inr (.inl bn))), (gD, .inl (cJ, 12, .inr (.inl bd))), (gC, .inl (cI, 12, .inl bc)), (gS, .inl (cI, 30, .inl bs)), (gL, .inl (cI, 30, .inl bl)), (gR, .inl (cI, 30, .inl br)), (gK, .inl (cI, 120, .inl bk)), (gW, .inl (cJ, 120, .inr (.inl bw)))] sz)) (q_Book_worthAt dC dI cB cI cJ oB gN gD gC gS gL gR gK gW nu rc cc_ sc bn bd bc bs bl br bk bw (va_A [(oB, .inr (0, [.ref gN, .ref gD, .ref gC, .int rc, .ref gS, .ref gL, .ref gR, .int cc_, .ref gK, .ref gW, .int sc])), (gN, .inl (cJ, 12, .inr (.inl bn))), (gD, .inl (cJ, 12, .inr (.inl bd))), (gC, .inl (cI, 12, .inl bc)), (gS, .inl (cI, 30, .inl bs)), (gL, .inl (cI, 30, .inl bl)), (gR, .inl (cI, 30, .inl br)), (gK, .inl (cI, 120, .inl bk)), (gW, .inl (cJ, 120, .inr (.inl bw)))] sz)) 0 0 (va_A [(oB, .inr (0, [.ref gN, .ref gD, .ref gC, .int rc, .ref gS, .ref gL, .ref gR, .int cc_, .ref gK, .ref gW, .int sc])), (gN, .inl (cJ, 12, .inr (.inl bn))), (gD, .inl (cJ, 12, .inr (.inl bd))), (gC, .inl (cI, 12, .inl bc)), (gS, .inl (cI, 30, .inl bs)), (gL, .inl (cI, 30, .inl bl)), (gR, .inl (cI, 30, .inl br)), (gK, .inl (cI, 120, .inl bk)), (gW, .inl (cJ, 120, .inr (.inl bw)))] sz) := by
  refine Met.ofW (cc := prog_2_method_16_code) (maxL := 2) (ret := (some .long)) (by decide) rfl ?_
  intro p e s m args below meth c s₁ B hml hv
  obtain ⟨rfl, hsz, hP, hKx, hD0⟩ := hv
  have hx := B.exec
  have hb := B.bytes
  have hr := B.returns
  have hts := atoms_spec (ws := (cw_Book_worthAt :: bgw)) B.pre
  have hown : s.vm.findClass "PermitRules$Book" = some m.cls := findClass_of_methodNamed B.named
  have hlocks := B.notSynchronized
  have htb := fun (w : Cond) (h : w ∈ bgw) => hts w (List.mem_cons_of_mem _ h)
  have hK := hKx.1
  subst hsz
  have hD := hD0.self (sz := s.heap.size)
  generalize hAe : va_A [(oB, .inr (0, [.ref gN, .ref gD, .ref gC, .int rc, .ref gS, .ref gL, .ref gR, .int cc_, .ref gK, .ref gW, .int sc])), (gN, .inl (cJ, 12, .inr (.inl bn))), (gD, .inl (cJ, 12, .inr (.inl bd))), (gC, .inl (cI, 12, .inl bc)), (gS, .inl (cI, 30, .inl bs)), (gL, .inl (cI, 30, .inl bl)), (gR, .inl (cI, 30, .inl br)), (gK, .inl (cI, 120, .inl bk)), (gW, .inl (cJ, 120, .inr (.inl bw)))] s.heap.size = A at hD ⊢
  have hA : ∀ q : Nat, s.heap.size ≤ q → A q := fun q h => by rw [← hAe]; exact Or.inr h
  have hS : va_S A s.heap s.heap [] := va_S.rf
  have hl := lv_entry ([.ref oB, .int nu]) (n := 2) (Nat.le_of_ble_eq_true rfl)
  rw [lg_entry_eq]
  generalize (lg_sl ([.ref oB, .int nu]) ++ List.replicate (2 - (lg_sl ([.ref oB, .int nu])).length) Slot.unset).toArray = ls at hl ⊢
  have hl : lv_has ls 2 [(0, .ref oB), (1, .int nu)] := hl
  have hP : va_P (dC, dI) vwCl [(oB, .inr (0, [.ref gN, .ref gD, .ref gC, .int rc, .ref gS, .ref gL, .ref gR, .int cc_, .ref gK, .ref gW, .int sc])), (gN, .inl (cJ, 12, .inr (.inl bn))), (gD, .inl (cJ, 12, .inr (.inl bd))), (gC, .inl (cI, 12, .inl bc)), (gS, .inl (cI, 30, .inl bs)), (gL, .inl (cI, 30, .inl bl)), (gR, .inl (cI, 30, .inl br)), (gK, .inl (cI, 120, .inl bk)), (gW, .inl (cJ, 120, .inr (.inl bw)))] s.heap := hP
  have hF : f_Book_worthAt nu bw = (if nu < 0 then 0 else (if 120 ≤ nu then 0 else bw nu.toNatClampNeg)) := rfl
  refine lv_iload_n hx hb d_Book_worthAt_0 rfl (lv_at hl 1 rfl) ?_
  refine lv_if_lt (tgt := 22) hx hb d_Book_worthAt_1 (by decide) (fun c_1 => ?_) (fun c_1 => ?_)
  · have hF := hF.trans (if_pos c_1)
    refine lv_lconst (v := 0) hx hb d_Book_worthAt_22 (by decide) ?_
    have hP9 := hP.sub (ws' := [(oB, .inr (0, [.ref gN, .ref gD, .ref gC, .int rc, .ref gS, .ref gL, .ref gR, .int cc_, .ref gK, .ref gW, .int sc])), (gN, .inl (cJ, 12, .inr (.inl bn))), (gD, .inl (cJ, 12, .inr (.inl bd))), (gC, .inl (cI, 12, .inl bc)), (gS, .inl (cI, 30, .inl bs)), (gL, .inl (cI, 30, .inl bl)), (gR, .inl (cI, 30, .inl br)), (gK, .inl (cI, 120, .inl bk)), (gW, .inl (cJ, 120, .inr (.inl bw)))]) [0, 1, 2, 3, 4, 5, 6, 7, 8] rfl
    have hD9 := hD.sub (ws' := [(oB, .inr (0, [.ref gN, .ref gD, .ref gC, .int rc, .ref gS, .ref gL, .ref gR, .int cc_, .ref gK, .ref gW, .int sc])), (gN, .inl (cJ, 12, .inr (.inl bn))), (gD, .inl (cJ, 12, .inr (.inl bd))), (gC, .inl (cI, 12, .inl bc)), (gS, .inl (cI, 30, .inl bs)), (gL, .inl (cI, 30, .inl bl)), (gR, .inl (cI, 30, .inl br)), (gK, .inl (cI, 120, .inl bk)), (gW, .inl (cJ, 120, .inr (.inl bw)))]) [0, 1, 2, 3, 4, 5, 6, 7, 8] (by decide) rfl
    exact W.lret (v := (0 : Int64)) hx hb hr (fun t ht hW => ⟨⟨(0 : Int64), (), rfl, by rw [hF], by rw [ht]; exact hP9, hD9⟩, hS.F ht⟩) hS.2.2 d_Book_worthAt_23
  · have hF := hF.trans (if_neg c_1)
    refine lv_iload_n hx hb d_Book_worthAt_4 rfl (lv_at hl 1 rfl) ?_
    refine lv_aload_n hx hb d_Book_worthAt_5 rfl (lv_at hl 0 rfl) ?_
    refine va_get (D := (dC, dI)) (ci := 0) (v := .ref gW) (C := "PermitRules$Book") (T := T_Book) (N := 11) hx hb htb in_Book hown hK hP 0 rfl rfl 9 (by decide) (htb _ mb_159) (fun _ h9 => h9) rfl d_Book_worthAt_6 ?_
    refine va_alen (v := 120) hx hb hK hP 8 2 rfl rfl (by rfl) d_Book_worthAt_9 ?_
    refine lv_icmp_ge (tgt := 22) hx hb d_Book_worthAt_10 (by decide) (fun c_2 => ?_) (fun c_2 => ?_)
    · have hF := hF.trans (if_pos c_2)
      refine lv_lconst (v := 0) hx hb d_Book_worthAt_22 (by decide) ?_
      have hP9 := hP.sub (ws' := [(oB, .inr (0, [.ref gN, .ref gD, .ref gC, .int rc, .ref gS, .ref gL, .ref gR, .int cc_, .ref gK, .ref gW, .int sc])), (gN, .inl (cJ, 12, .inr (.inl bn))), (gD, .inl (cJ, 12, .inr (.inl bd))), (gC, .inl (cI, 12, .inl bc)), (gS, .inl (cI, 30, .inl bs)), (gL, .inl (cI, 30, .inl bl)), (gR, .inl (cI, 30, .inl br)), (gK, .inl (cI, 120, .inl bk)), (gW, .inl (cJ, 120, .inr (.inl bw)))]) [0, 1, 2, 3, 4, 5, 6, 7, 8] rfl
      have hD9 := hD.sub (ws' := [(oB, .inr (0, [.ref gN, .ref gD, .ref gC, .int rc, .ref gS, .ref gL, .ref gR, .int cc_, .ref gK, .ref gW, .int sc])), (gN, .inl (cJ, 12, .inr (.inl bn))), (gD, .inl (cJ, 12, .inr (.inl bd))), (gC, .inl (cI, 12, .inl bc)), (gS, .inl (cI, 30, .inl bs)), (gL, .inl (cI, 30, .inl bl)), (gR, .inl (cI, 30, .inl br)), (gK, .inl (cI, 120, .inl bk)), (gW, .inl (cJ, 120, .inr (.inl bw)))]) [0, 1, 2, 3, 4, 5, 6, 7, 8] (by decide) rfl
      exact W.lret (v := (0 : Int64)) hx hb hr (fun t ht hW => ⟨⟨(0 : Int64), (), rfl, by rw [hF], by rw [ht]; exact hP9, hD9⟩, hS.F ht⟩) hS.2.2 d_Book_worthAt_23
    · have hF := hF.trans (if_neg c_2)
      refine lv_aload_n hx hb d_Book_worthAt_13 rfl (lv_at hl 0 rfl) ?_
      refine va_get (D := (dC, dI)) (ci := 0) (v := .ref gW) (C := "PermitRules$Book") (T := T_Book) (N := 11) hx hb htb in_Book hown hK hP 0 rfl rfl 9 (by decide) (htb _ mb_159) (fun _ h9 => h9) rfl d_Book_worthAt_14 ?_
      refine lv_iload_n hx hb d_Book_worthAt_17 rfl (lv_at hl 1 rfl) ?_
      refine va_lald hx hb hK hP 8 2 rfl rfl (oi_in (N := 120) (by decide) c_1 c_2) d_Book_worthAt_18 ?_
      refine lv_goto (tgt := 23) hx hb d_Book_worthAt_19 (by decide) ?_
      have hP9 := hP.sub (ws' := [(oB, .inr (0, [.ref gN, .ref gD, .ref gC, .int rc, .ref gS, .ref gL, .ref gR, .int cc_, .ref gK, .ref gW, .int sc])), (gN, .inl (cJ, 12, .inr (.inl bn))), (gD, .inl (cJ, 12, .inr (.inl bd))), (gC, .inl (cI, 12, .inl bc)), (gS, .inl (cI, 30, .inl bs)), (gL, .inl (cI, 30, .inl bl)), (gR, .inl (cI, 30, .inl br)), (gK, .inl (cI, 120, .inl bk)), (gW, .inl (cJ, 120, .inr (.inl bw)))]) [0, 1, 2, 3, 4, 5, 6, 7, 8] rfl
      have hD9 := hD.sub (ws' := [(oB, .inr (0, [.ref gN, .ref gD, .ref gC, .int rc, .ref gS, .ref gL, .ref gR, .int cc_, .ref gK, .ref gW, .int sc])), (gN, .inl (cJ, 12, .inr (.inl bn))), (gD, .inl (cJ, 12, .inr (.inl bd))), (gC, .inl (cI, 12, .inl bc)), (gS, .inl (cI, 30, .inl bs)), (gL, .inl (cI, 30, .inl bl)), (gR, .inl (cI, 30, .inl br)), (gK, .inl (cI, 120, .inl bk)), (gW, .inl (cJ, 120, .inr (.inl bw)))]) [0, 1, 2, 3, 4, 5, 6, 7, 8] (by decide) rfl
      exact W.lret (v := bw nu.toNatClampNeg) hx hb hr (fun t ht hW => ⟨⟨bw nu.toNatClampNeg, (), rfl, by rw [hF], by rw [ht]; exact hP9, hD9⟩, hS.F ht⟩) hS.2.2 d_Book_worthAt_23
