theorem bb_g (tl : Int32) (tf : Nat → Int32) : ∀ (n : Nat) (fr pl : Int32), ¬ pl < 0 → ¬ f_Words_behindBlanks_L2 fr tl tf n pl < 0 ∧ (f_Words_behindBlanks_L2 fr tl tf n pl).toInt ≤ max pl.toInt 800 := by
  intro n
  induction n with
  | zero => intro fr pl h; exact ⟨by simp only [f_Words_behindBlanks_L2]; decide, by simp only [f_Words_behindBlanks_L2, oi_z]; omega⟩
  | succ n ih =>
    intro fr pl h
    rw [f_Words_behindBlanks_L2_s]
    split
    · exact ⟨h, by omega⟩
    · rename_i h1
      simp only [lt_]
      have h5 := h
      have h6 := h1
      rw [oi_lt, oi_z] at h5
      rw [oi_le, show (800 : Int32).toInt = 800 by decide] at h6
      have h3 : (pl + 1).toInt = pl.toInt + 1 := by rw [oi_add (by rw [oi_1]; omega) (by rw [oi_1]; omega), oi_1]
      have h4 := ih fr (pl + 1) (by rw [oi_lt, oi_z, h3]; omega)
      rw [h3] at h4
      split
      all_goals first | exact ⟨h, by omega⟩ | exact ⟨h4.1, by have := h4.2; omega⟩
theorem bw_g48 (tl : Int32) (tf : Nat → Int32) : ∀ (n : Nat) (fr pl : Int32), ¬ pl < 0 → ¬ f_Words_behindWord_L48 fr tl tf n pl < 0 ∧ (f_Words_behindWord_L48 fr tl tf n pl).toInt ≤ max pl.toInt 800 := by
  intro n
  induction n with
  | zero => intro fr pl h; exact ⟨by simp only [f_Words_behindWord_L48]; decide, by simp only [f_Words_behindWord_L48, oi_z]; omega⟩
  | succ n ih =>
    intro fr pl h
    rw [f_Words_behindWord_L48_s]
    split
    · exact ⟨h, by omega⟩
    · rename_i h1
      simp only [lt_]
      have h5 := h
      have h6 := h1
      rw [oi_lt, oi_z] at h5
      rw [oi_le, show (800 : Int32).toInt = 800 by decide] at h6
      have h3 : (pl + 1).toInt = pl.toInt + 1 := by rw [oi_add (by rw [oi_1]; omega) (by rw [oi_1]; omega), oi_1]
      have h4 := ih fr (pl + 1) (by rw [oi_lt, oi_z, h3]; omega)
      rw [h3] at h4
      split
      all_goals first | exact ⟨h, by omega⟩ | exact ⟨h4.1, by have := h4.2; omega⟩
theorem bw_g17 (tl : Int32) (tf : Nat → Int32) : ∀ (n : Nat) (fr pl : Int32), ¬ pl < 0 → ¬ f_Words_behindWord_L17 fr tl tf n pl < 0 ∧ (f_Words_behindWord_L17 fr tl tf n pl).toInt ≤ max pl.toInt 800 := by
  intro n
  induction n with
  | zero => intro fr pl h; exact ⟨by simp only [f_Words_behindWord_L17]; decide, by simp only [f_Words_behindWord_L17, oi_z]; omega⟩
  | succ n ih =>
    intro fr pl h
    rw [f_Words_behindWord_L17_s]
    split
    · exact ⟨h, by omega⟩
    · rename_i h1
      simp only [lt_]
      have h5 := h
      have h6 := h1
      rw [oi_lt, oi_z] at h5
      rw [oi_le, show (800 : Int32).toInt = 800 by decide] at h6
      have h3 : (pl + 1).toInt = pl.toInt + 1 := by rw [oi_add (by rw [oi_1]; omega) (by rw [oi_1]; omega), oi_1]
      have h4 := ih fr (pl + 1) (by rw [oi_lt, oi_z, h3]; omega)
      rw [h3] at h4
      split
      all_goals first | exact ⟨h, by omega⟩ | exact ⟨h4.1, by have := h4.2; omega⟩
theorem bb_0 {z fr tl : Int32} {tf : Nat → Int32} (hz : z = f_Words_behindBlanks fr tl tf) (h : ¬ fr < 0) : ¬ z < 0 := by rw [hz]; exact (bb_g tl tf 801 fr fr h).1
theorem bb_1 {z fr tl : Int32} {tf : Nat → Int32} (hz : z = f_Words_behindBlanks fr tl tf) (h : ¬ fr < 0) : z.toInt ≤ max fr.toInt 800 := by rw [hz]; exact (bb_g tl tf 801 fr fr h).2
theorem bb_2 {z fr tl i : Int32} {tf : Nat → Int32} (hz : z = f_Words_behindBlanks fr tl tf) (h : ¬ fr < 0) (p1 : fr.toInt ≤ 802 + 2 * i.toInt) (k : ¬ 121 ≤ i) : z.toInt < 2000000000 := by
  have h1 := bb_1 hz h
  rw [oi_le, show (121 : Int32).toInt = 121 by decide] at k
  omega
theorem bw_b {fr tl : Int32} {tf : Nat → Int32} (h0 : ¬ fr < 0) (h1 : fr.toInt < 2000000000) : ¬ f_Words_behindWord fr tl tf < 0 ∧ (f_Words_behindWord fr tl tf).toInt ≤ max (fr.toInt + 1) 800 + 1 := by
  have h2 := h0
  rw [oi_lt, oi_z] at h2
  have h3 : (fr + 1).toInt = fr.toInt + 1 := by rw [oi_add (by rw [oi_1]; omega) (by rw [oi_1]; omega), oi_1]
  have h4 : (fr + 1 + 1).toInt = fr.toInt + 2 := by rw [oi_add (by rw [h3, oi_1]; omega) (by rw [h3, oi_1]; omega), h3, oi_1]; omega
  have h5 : ¬ fr + 1 < 0 := by rw [oi_lt, oi_z, h3]; omega
  have h6 : ¬ fr + 1 + 1 < 0 := by rw [oi_lt, oi_z, h4]; omega
  have a1 := bw_g48 tl tf 801 fr (fr + 1) h5
  have a2 := bw_g17 tl tf 801 fr (fr + 1) h5
  rw [h3] at a1 a2
  have b1 : ¬ fr + 1 < 0 ∧ (fr + 1).toInt ≤ max (fr.toInt + 1) 800 + 1 := ⟨h5, by rw [h3]; omega⟩
  have b2 : ¬ fr + 1 + 1 < 0 ∧ (fr + 1 + 1).toInt ≤ max (fr.toInt + 1) 800 + 1 := ⟨h6, by rw [h4]; omega⟩
  have b3 : ¬ f_Words_behindWord_L48 fr tl tf 801 (fr + 1) < 0 ∧ (f_Words_behindWord_L48 fr tl tf 801 (fr + 1)).toInt ≤ max (fr.toInt + 1) 800 + 1 := ⟨a1.1, by have := a1.2; omega⟩
  have b4 : ¬ f_Words_behindWord_L17 fr tl tf 801 (fr + 1) < 0 ∧ (f_Words_behindWord_L17 fr tl tf 801 (fr + 1)).toInt ≤ max (fr.toInt + 1) 800 + 1 := ⟨a2.1, by have := a2.2; omega⟩
  unfold f_Words_behindWord
  simp only [lt_]
  repeat' split
  all_goals first | exact b1 | exact b2 | exact b3 | exact b4
theorem bw_0 {y fr tl : Int32} {tf : Nat → Int32} (hy : y = f_Words_behindWord fr tl tf) (h0 : ¬ fr < 0) (h1 : fr.toInt < 2000000000) : ¬ y < 0 := by rw [hy]; exact (bw_b h0 h1).1
theorem bw_2 {y z pl tl i : Int32} {tf : Nat → Int32} (hz : z = f_Words_behindBlanks pl tl tf) (hy : y = f_Words_behindWord z tl tf) (i0 : ¬ i < 0) (h : ¬ pl < 0) (p1 : pl.toInt ≤ 802 + 2 * i.toInt) (k : ¬ 121 ≤ i) : y.toInt ≤ 802 + 2 * (i + 1).toInt := by
  have h1 := bb_1 hz h
  have h2 := (bw_b (tl := tl) (tf := tf) (bb_0 hz h) (bb_2 hz h p1 k)).2
  rw [← hy] at h2
  rw [oi_le, show (121 : Int32).toInt = 121 by decide] at k
  rw [oi_lt, oi_z] at i0
  have h3 : (i + 1).toInt = i.toInt + 1 := by rw [oi_add (by rw [oi_1]; omega) (by rw [oi_1]; omega), oi_1]
  rw [h3]
  omega
def f_Words_split_L9 (wk : (Nat → Int32)) (wp : (Nat → Int32)) (ww : (Nat → Int64)) (tl : Int32) (tf : (Nat → Int32)) : Nat → Int32 → Int32 → (Nat → Int32) → (Nat → Int32) → (Nat → Int64) → Int32 × (Nat → Int32) × (Nat → Int32) × (Nat → Int64)
  | 0, _, _, _, _, _ => (0, (fun _ => 0), (fun _ => 0), (fun _ => 0))
  | n + 1, i, pl, xk, xp, xw => (if 120 < i then (0, xk, xp, xw) else (if 121 ≤ i then (0, xk, xp, xw) else (if 121 ≤ i then (0, xk, xp, xw) else (if 121 ≤ i then (0, xk, xp, xw) else (lt_ (f_Words_behindBlanks pl tl tf) fun z_5 => (lt_ (f_Words_behindWord z_5 tl tf) fun z_6 => (lt_ (f_Words_kindOf z_5 z_6 tl tf) fun z_7 => (if i = 120 then (if z_7 = 0 then (lt_ (f_Words_worthOf z_5 z_6 z_7 tl tf) fun z_13 => (if z_7 = 0 then (0, upd xk i.toNatClampNeg z_7, upd xp i.toNatClampNeg z_5, vp_updL xw i.toNatClampNeg z_13) else (if z_7 = 1 then (0, upd xk i.toNatClampNeg z_7, upd xp i.toNatClampNeg z_5, vp_updL xw i.toNatClampNeg z_13) else (f_Words_split_L9 wk wp ww tl tf n (i + 1) z_6 (upd xk i.toNatClampNeg z_7) (upd xp i.toNatClampNeg z_5) (vp_updL xw i.toNatClampNeg z_13))))) else (lt_ (f_Words_worthOf z_5 z_6 1 tl tf) fun z_16 => (0, upd xk i.toNatClampNeg 1, upd xp i.toNatClampNeg z_5, vp_updL xw i.toNatClampNeg z_16))) else (lt_ (f_Words_worthOf z_5 z_6 z_7 tl tf) fun z_9 => (if z_7 = 0 then (0, upd xk i.toNatClampNeg z_7, upd xp i.toNatClampNeg z_5, vp_updL xw i.toNatClampNeg z_9) else (if z_7 = 1 then (0, upd xk i.toNatClampNeg z_7, upd xp i.toNatClampNeg z_5, vp_updL xw i.toNatClampNeg z_9) else (f_Words_split_L9 wk wp ww tl tf n (i + 1) z_6 (upd xk i.toNatClampNeg z_7) (upd xp i.toNatClampNeg z_5) (vp_updL xw i.toNatClampNeg z_9)))))))))))))
theorem f_Words_split_L9_s (wk : (Nat → Int32)) (wp : (Nat → Int32)) (ww : (Nat → Int64)) (tl : Int32) (tf : (Nat → Int32)) (n : Nat) (i : Int32) (pl : Int32) (xk : (Nat → Int32)) (xp : (Nat → Int32)) (xw : (Nat → Int64)) : f_Words_split_L9 wk wp ww tl tf (n + 1) i pl xk xp xw = (if 120 < i then (0, xk, xp, xw) else (if 121 ≤ i then (0, xk, xp, xw) else (if 121 ≤ i then (0, xk, xp, xw) else (if 121 ≤ i then (0, xk, xp, xw) else (lt_ (f_Words_behindBlanks pl tl tf) fun z_5 => (lt_ (f_Words_behindWord z_5 tl tf) fun z_6 => (lt_ (f_Words_kindOf z_5 z_6 tl tf) fun z_7 => (if i = 120 then (if z_7 = 0 then (lt_ (f_Words_worthOf z_5 z_6 z_7 tl tf) fun z_13 => (if z_7 = 0 then (0, upd xk i.toNatClampNeg z_7, upd xp i.toNatClampNeg z_5, vp_updL xw i.toNatClampNeg z_13) else (if z_7 = 1 then (0, upd xk i.toNatClampNeg z_7, upd xp i.toNatClampNeg z_5, vp_updL xw i.toNatClampNeg z_13) else (f_Words_split_L9 wk wp ww tl tf n (i + 1) z_6 (upd xk i.toNatClampNeg z_7) (upd xp i.toNatClampNeg z_5) (vp_updL xw i.toNatClampNeg z_13))))) else (lt_ (f_Words_worthOf z_5 z_6 1 tl tf) fun z_16 => (0, upd xk i.toNatClampNeg 1, upd xp i.toNatClampNeg z_5, vp_updL xw i.toNatClampNeg z_16))) else (lt_ (f_Words_worthOf z_5 z_6 z_7 tl tf) fun z_9 => (if z_7 = 0 then (0, upd xk i.toNatClampNeg z_7, upd xp i.toNatClampNeg z_5, vp_updL xw i.toNatClampNeg z_9) else (if z_7 = 1 then (0, upd xk i.toNatClampNeg z_7, upd xp i.toNatClampNeg z_5, vp_updL xw i.toNatClampNeg z_9) else (f_Words_split_L9 wk wp ww tl tf n (i + 1) z_6 (upd xk i.toNatClampNeg z_7) (upd xp i.toNatClampNeg z_5) (vp_updL xw i.toNatClampNeg z_9))))))))))))) := rfl
def f_Words_split (wk : (Nat → Int32)) (wp : (Nat → Int32)) (ww : (Nat → Int64)) (tl : Int32) (tf : (Nat → Int32)) : Int32 × (Nat → Int32) × (Nat → Int32) × (Nat → Int64) := (f_Words_split_L9 wk wp ww tl tf 122 0 0 wk wp ww)
abbrev q_Words_split (dC : Nat → ClassId) (dI : Nat → Nat → Nat) (cB cI cJ : ClassId) (oW aK aP aO oT aT : Nat) (cu : Int32) (wk : (Nat → Int32)) (wp : (Nat → Int32)) (ww : (Nat → Int64)) (tl : Int32) (tf : (Nat → Int32)) (A : Nat → Prop) : Array Value → State → Outcome → State → Prop := va_Qv (fun u : Int32 × (Nat → Int32) × (Nat → Int32) × (Nat → Int64) => u = f_Words_split wk wp ww tl tf) (fun u t => va_P (dC, dI) vwCl [(oW, .inr (6, [.ref aK, .ref aP, .ref aO, .int u.1])), (aK, .inl (cI, 121, .inl u.2.1)), (aP, .inl (cI, 121, .inl u.2.2.1)), (aO, .inl (cJ, 121, .inr (.inl u.2.2.2))), (oT, .inr (5, [.ref aT, .int tl])), (aT, .inl (cB, 800, .inl tf))] t.heap ∧ va_D A [(oW, .inr (6, [.ref aK, .ref aP, .ref aO, .int u.1])), (aK, .inl (cI, 121, .inl u.2.1)), (aP, .inl (cI, 121, .inl u.2.2.1)), (aO, .inl (cJ, 121, .inr (.inl u.2.2.2))), (oT, .inr (5, [.ref aT, .int tl])), (aT, .inl (cB, 800, .inl tf))]) A
set_option maxHeartbeats 4000000 in
set_option maxRecDepth 100000 in
theorem c_Words_split (l : Launch) (dC : Nat → ClassId) (dI : Nat → Nat → Nat) (cB cI cJ : ClassId) (oW aK aP aO oT aT : Nat) (sz : Nat) (cu : Int32) (wk : (Nat → Int32)) (wp : (Nat → Int32)) (ww : (Nat → Int64)) (tl : Int32) (tf : (Nat → Int32)) : Met l y_Words_split (cw_Words_split :: bgw) { frames := 2, cells := 0, slots := 0, locals := 47 } (va_Pc [.ref oW, .ref oT] (kb_B dC dI cB cI cJ [(oW, .inr (6, [.ref aK, .ref aP, .ref aO, .int cu])), (aK, .inl (cI, 121, .inl wk)), (aP, .inl (cI, 121, .inl wp)), (aO, .inl (cJ, 121, .inr (.inl ww))), (oT, .inr (5, [.ref aT, .int tl])), (aT, .inl (cB, 800, .inl tf))] sz)) (q_Words_split dC dI cB cI cJ oW aK aP aO oT aT cu wk wp ww tl tf (va_A [(oW, .inr (6, [.ref aK, .ref aP, .ref aO, .int cu])), (aK, .inl (cI, 121, .inl wk)), (aP, .inl (cI, 121, .inl wp)), (aO, .inl (cJ, 121, .inr (.inl ww))), (oT, .inr (5, [.ref aT, .int tl])), (aT, .inl (cB, 800, .inl tf))] sz)) 0 0 (va_A [(oW, .inr (6, [.ref aK, .ref aP, .ref aO, .int cu])), (aK, .inl (cI, 121, .inl wk)), (aP, .inl (cI, 121, .inl wp)), (aO, .inl (cJ, 121, .inr (.inl ww))), (oT, .inr (5, [.ref aT, .int tl])), (aT, .inl (cB, 800, .inl tf))] sz) := by
  refine Met.ofW (cc := prog_8_method_2_code) (maxL := 6) (ret := none) (by decide) rfl ?_
  intro p e s m args below meth c s₁ B hml hv
  obtain ⟨rfl, hsz, hP, hKx, hD0⟩ := hv
  have hx := B.exec
  have hb := B.bytes
  have hr := B.returns
  have hts := atoms_spec (ws := (cw_Words_split :: bgw)) B.pre
  have hown : s.vm.findClass "PermitRules$Words" = some m.cls := findClass_of_methodNamed B.named
  have hlocks := B.notSynchronized
  have htb := fun (w : Cond) (h : w ∈ bgw) => hts w (List.mem_cons_of_mem _ h)
  have hK := hKx.1
  subst hsz
  have hD := hD0.self (sz := s.heap.size)
  generalize hAe : va_A [(oW, .inr (6, [.ref aK, .ref aP, .ref aO, .int cu])), (aK, .inl (cI, 121, .inl wk)), (aP, .inl (cI, 121, .inl wp)), (aO, .inl (cJ, 121, .inr (.inl ww))), (oT, .inr (5, [.ref aT, .int tl])), (aT, .inl (cB, 800, .inl tf))] s.heap.size = A at hD ⊢
  have hA : ∀ q : Nat, s.heap.size ≤ q → A q := fun q h => by rw [← hAe]; exact Or.inr h
  have hS : va_S A s.heap s.heap [] := va_S.rf
  have hl := lv_entry ([.ref oW, .ref oT]) (n := 6) (Nat.le_of_ble_eq_true rfl)
  rw [lg_entry_eq]
  generalize (lg_sl ([.ref oW, .ref oT]) ++ List.replicate (6 - (lg_sl ([.ref oW, .ref oT])).length) Slot.unset).toArray = ls at hl ⊢
  have hl : lv_has ls 6 [(0, .ref oW), (1, .ref oT)] := hl
  have hP : va_P (dC, dI) vwCl [(oW, .inr (6, [.ref aK, .ref aP, .ref aO, .int cu])), (aK, .inl (cI, 121, .inl wk)), (aP, .inl (cI, 121, .inl wp)), (aO, .inl (cJ, 121, .inr (.inl ww))), (oT, .inr (5, [.ref aT, .int tl])), (aT, .inl (cB, 800, .inl tf))] s.heap := hP
  have hF : f_Words_split wk wp ww tl tf = (f_Words_split_L9 wk wp ww tl tf 122 0 0 wk wp ww) := rfl
  have lp9 : ∀ (n : Nat) (i : Int32) (pl : Int32) (xk : (Nat → Int32)) (xp : (Nat → Int32)) (xw : (Nat → Int64)), ¬ i < 0 → ¬ pl < 0 → pl.toInt ≤ 802 + 2 * i.toInt → ((121 : Int) - i.toInt).toNat < n → f_Words_split wk wp ww tl tf = f_Words_split_L9 wk wp ww tl tf n i pl xk xp xw → ∀ (H : Heap) (locs : List Loc) (ls : Array Slot), va_P (dC, dI) vwCl [(oW, .inr (6, [.ref aK, .ref aP, .ref aO, .int 0])), (aK, .inl (cI, 121, .inl xk)), (aP, .inl (cI, 121, .inl xp)), (aO, .inl (cJ, 121, .inr (.inl xw))), (oT, .inr (5, [.ref aT, .int tl])), (aT, .inl (cB, 800, .inl tf))] H → va_D A [(oW, .inr (6, [.ref aK, .ref aP, .ref aO, .int 0])), (aK, .inl (cI, 121, .inl xk)), (aP, .inl (cI, 121, .inl xp)), (aO, .inl (cJ, 121, .inr (.inl xw))), (oT, .inr (5, [.ref aT, .int tl])), (aT, .inl (cB, 800, .inl tf))] → va_S A s.heap H locs → lv_has ls 6 [(3, .int i), (2, .int pl), (0, .ref oW), (1, .ref oT)] → W p l e (headSpec (cw_Words_split :: bgw) { frames := 2, cells := 0, slots := 0, locals := 47 }).room s m ([.ref oW, .ref oT] : List Value).toArray below meth c H locs 0 0 (MQ below (q_Words_split dC dI cB cI cJ oW aK aP aO oT aT cu wk wp ww tl tf A) ([.ref oW, .ref oT] : List Value).toArray s 0 0 A) (F0 m 9 ls []) := by
    intro n
    induction n with
    | zero => intro i pl xk xp xw i0 p0 p1 hn; exact absurd hn (Nat.not_lt_zero _)
    | succ n ih =>
      intro i pl xk xp xw i0 p0 p1 hn hF H locs ls hP hD hS hl
      have hF := hF.trans (f_Words_split_L9_s wk wp ww tl tf n i pl xk xp xw)
      refine lv_iload_n hx hb d_Words_split_9 rfl (lv_at hl 0 rfl) ?_
      refine lv_bipush (v := 120) hx hb d_Words_split_10 (by decide) ?_
      refine lv_icmp_gt (tgt := 129) hx hb d_Words_split_12 (by decide) (fun c_1 => ?_) (fun c_1 => ?_)
      · have hF := hF.trans (if_pos c_1)
        have hP9 := hP.sub (ws' := [(oW, .inr (6, [.ref aK, .ref aP, .ref aO, .int 0])), (aK, .inl (cI, 121, .inl xk)), (aP, .inl (cI, 121, .inl xp)), (aO, .inl (cJ, 121, .inr (.inl xw))), (oT, .inr (5, [.ref aT, .int tl])), (aT, .inl (cB, 800, .inl tf))]) [0, 1, 2, 3, 4, 5] rfl
        have hD9 := hD.sub (ws' := [(oW, .inr (6, [.ref aK, .ref aP, .ref aO, .int 0])), (aK, .inl (cI, 121, .inl xk)), (aP, .inl (cI, 121, .inl xp)), (aO, .inl (cJ, 121, .inr (.inl xw))), (oT, .inr (5, [.ref aT, .int tl])), (aT, .inl (cB, 800, .inl tf))]) [0, 1, 2, 3, 4, 5] (by decide) rfl
        exact W.vret hx hb hr (fun t ht hW => ⟨⟨(0, xk, xp, xw), rfl, by rw [hF], by rw [ht]; exact hP9, hD9⟩, hS.F ht⟩) hS.2.2 d_Words_split_129
      · have hF := hF.trans (if_neg c_1)
        refine lv_iload_n hx hb d_Words_split_15 rfl (lv_at hl 0 rfl) ?_
        refine lv_aload_n hx hb d_Words_split_16 rfl (lv_at hl 2 rfl) ?_
        refine va_get (D := (dC, dI)) (ci := 6) (v := .ref aK) (C := "PermitRules$Words") (T := T_Words) (N := 4) hx hb htb in_Words hown hK hP 0 rfl rfl 0 (by decide) (htb _ mb_50) (fun _ h9 => h9) rfl d_Words_split_17 ?_
        refine va_alen (v := 121) hx hb hK hP 1 1 rfl rfl (by rfl) d_Words_split_20 ?_
        refine lv_icmp_ge (tgt := 129) hx hb d_Words_split_21 (by decide) (fun c_2 => ?_) (fun c_2 => ?_)
        · have hF := hF.trans (if_pos c_2)
          have hP9 := hP.sub (ws' := [(oW, .inr (6, [.ref aK, .ref aP, .ref aO, .int 0])), (aK, .inl (cI, 121, .inl xk)), (aP, .inl (cI, 121, .inl xp)), (aO, .inl (cJ, 121, .inr (.inl xw))), (oT, .inr (5, [.ref aT, .int tl])), (aT, .inl (cB, 800, .inl tf))]) [0, 1, 2, 3, 4, 5] rfl
          have hD9 := hD.sub (ws' := [(oW, .inr (6, [.ref aK, .ref aP, .ref aO, .int 0])), (aK, .inl (cI, 121, .inl xk)), (aP, .inl (cI, 121, .inl xp)), (aO, .inl (cJ, 121, .inr (.inl xw))), (oT, .inr (5, [.ref aT, .int tl])), (aT, .inl (cB, 800, .inl tf))]) [0, 1, 2, 3, 4, 5] (by decide) rfl
          exact W.vret hx hb hr (fun t ht hW => ⟨⟨(0, xk, xp, xw), rfl, by rw [hF], by rw [ht]; exact hP9, hD9⟩, hS.F ht⟩) hS.2.2 d_Words_split_129
        · have hF := hF.trans (if_neg c_2)
          refine lv_iload_n hx hb d_Words_split_24 rfl (lv_at hl 0 rfl) ?_
          refine lv_aload_n hx hb d_Words_split_25 rfl (lv_at hl 2 rfl) ?_
          refine va_get (D := (dC, dI)) (ci := 6) (v := .ref aP) (C := "PermitRules$Words") (T := T_Words) (N := 4) hx hb htb in_Words hown hK hP 0 rfl rfl 1 (by decide) (htb _ mb_51) (fun _ h9 => h9) rfl d_Words_split_26 ?_
          refine va_alen (v := 121) hx hb hK hP 2 1 rfl rfl (by rfl) d_Words_split_29 ?_
          refine lv_icmp_ge (tgt := 129) hx hb d_Words_split_30 (by decide) (fun c_3 => ?_) (fun c_3 => ?_)
          · have hF := hF.trans (if_pos c_3)
            have hP9 := hP.sub (ws' := [(oW, .inr (6, [.ref aK, .ref aP, .ref aO, .int 0])), (aK, .inl (cI, 121, .inl xk)), (aP, .inl (cI, 121, .inl xp)), (aO, .inl (cJ, 121, .inr (.inl xw))), (oT, .inr (5, [.ref aT, .int tl])), (aT, .inl (cB, 800, .inl tf))]) [0, 1, 2, 3, 4, 5] rfl
            have hD9 := hD.sub (ws' := [(oW, .inr (6, [.ref aK, .ref aP, .ref aO, .int 0])), (aK, .inl (cI, 121, .inl xk)), (aP, .inl (cI, 121, .inl xp)), (aO, .inl (cJ, 121, .inr (.inl xw))), (oT, .inr (5, [.ref aT, .int tl])), (aT, .inl (cB, 800, .inl tf))]) [0, 1, 2, 3, 4, 5] (by decide) rfl
            exact W.vret hx hb hr (fun t ht hW => ⟨⟨(0, xk, xp, xw), rfl, by rw [hF], by rw [ht]; exact hP9, hD9⟩, hS.F ht⟩) hS.2.2 d_Words_split_129
          · have hF := hF.trans (if_neg c_3)
            refine lv_iload_n hx hb d_Words_split_33 rfl (lv_at hl 0 rfl) ?_
            refine lv_aload_n hx hb d_Words_split_34 rfl (lv_at hl 2 rfl) ?_
            refine va_get (D := (dC, dI)) (ci := 6) (v := .ref aO) (C := "PermitRules$Words") (T := T_Words) (N := 4) hx hb htb in_Words hown hK hP 0 rfl rfl 2 (by decide) (htb _ mb_52) (fun _ h9 => h9) rfl d_Words_split_35 ?_
            refine va_alen (v := 121) hx hb hK hP 3 2 rfl rfl (by rfl) d_Words_split_38 ?_
            refine lv_icmp_ge (tgt := 129) hx hb d_Words_split_39 (by decide) (fun c_4 => ?_) (fun c_4 => ?_)
            · have hF := hF.trans (if_pos c_4)
              have hP9 := hP.sub (ws' := [(oW, .inr (6, [.ref aK, .ref aP, .ref aO, .int 0])), (aK, .inl (cI, 121, .inl xk)), (aP, .inl (cI, 121, .inl xp)), (aO, .inl (cJ, 121, .inr (.inl xw))), (oT, .inr (5, [.ref aT, .int tl])), (aT, .inl (cB, 800, .inl tf))]) [0, 1, 2, 3, 4, 5] rfl
              have hD9 := hD.sub (ws' := [(oW, .inr (6, [.ref aK, .ref aP, .ref aO, .int 0])), (aK, .inl (cI, 121, .inl xk)), (aP, .inl (cI, 121, .inl xp)), (aO, .inl (cJ, 121, .inr (.inl xw))), (oT, .inr (5, [.ref aT, .int tl])), (aT, .inl (cB, 800, .inl tf))]) [0, 1, 2, 3, 4, 5] (by decide) rfl
              exact W.vret hx hb hr (fun t ht hW => ⟨⟨(0, xk, xp, xw), rfl, by rw [hF], by rw [ht]; exact hP9, hD9⟩, hS.F ht⟩) hS.2.2 d_Words_split_129
            · have hF := hF.trans (if_neg c_4)
              refine lv_aload_n hx hb d_Words_split_42 rfl (lv_at hl 3 rfl) ?_
              refine lv_iload_n hx hb d_Words_split_43 rfl (lv_at hl 1 rfl) ?_
              have hPc := hP.sub (ws' := [(oT, .inr (5, [.ref aT, .int tl])), (aT, .inl (cB, 800, .inl tf))]) [4, 5] rfl
              have hDc := hD.sub (ws' := [(oT, .inr (5, [.ref aT, .int tl])), (aT, .inl (cB, 800, .inl tf))]) [4, 5] (by decide) rfl
              have hFc := va_free (wc := [(oT, .inr (5, [.ref aT, .int tl])), (aT, .inl (cB, 800, .inl tf))]) hD hS hA [4, 5] rfl
              refine va_calli (va_runS (As := [.ref oT, .int pl]) (rest := []) ⟨hx, hb, hml, hown, htb⟩ (c_Words_behindBlanks l dC dI cB cI cJ oT aT _ pl tl tf p0) ⟨callB_of 2 htb (gb_all mb_227) rfl rfl rfl (htb _ mb_4) (htb _ mb_225) (by decide +kernel) ⟨Nat.le_of_ble_eq_true rfl, Nat.le_of_ble_eq_true rfl⟩, htb _ mb_226⟩ ⟨kb_blind, kb_at hPc hDc hKx⟩ rfl rfl hl.1 rfl (lv_room (Nat.le_of_ble_eq_true rfl)) d_Words_split_44 ⟨Nat.le_of_ble_eq_true rfl, Nat.le_of_ble_eq_true rfl⟩) hS (fun q _ h => hFc q h) hFc (fun z_5 u t H1 locs ht hvm hw hB hz1 hk1 hS => ?_)
              have hz_5 := hw
              have hF := hF.trans (lt_e hz_5)
              obtain ⟨hP1, hD1⟩ := hB
              rw [ht] at hP1
              obtain ⟨hP, hD⟩ := va_join (wr := [(oW, .inr (6, [.ref aK, .ref aP, .ref aO, .int 0])), (aK, .inl (cI, 121, .inl xk)), (aP, .inl (cI, 121, .inl xp)), (aO, .inl (cJ, 121, .inr (.inl xw)))]) (w1 := [(oT, .inr (5, [.ref aT, .int tl])), (aT, .inl (cB, 800, .inl tf))]) hP hD [4, 5] [0, 1, 2, 3] rfl rfl (by decide) (by decide) hk1 hFc hP1 hD1
              generalize H1 = H at hP hS ⊢
              have hP : va_P (dC, dI) vwCl [(oW, .inr (6, [.ref aK, .ref aP, .ref aO, .int 0])), (aK, .inl (cI, 121, .inl xk)), (aP, .inl (cI, 121, .inl xp)), (aO, .inl (cJ, 121, .inr (.inl xw))), (oT, .inr (5, [.ref aT, .int tl])), (aT, .inl (cB, 800, .inl tf))] H := hP
              have hD : va_D A [(oW, .inr (6, [.ref aK, .ref aP, .ref aO, .int 0])), (aK, .inl (cI, 121, .inl xk)), (aP, .inl (cI, 121, .inl xp)), (aO, .inl (cJ, 121, .inr (.inl xw))), (oT, .inr (5, [.ref aT, .int tl])), (aT, .inl (cB, 800, .inl tf))] := hD
              refine lv_istore_n (lv' := [(2, .int z_5), (3, .int i), (0, .ref oW), (1, .ref oT)]) hx hb d_Words_split_47 rfl hl (by decide) rfl (fun ls hl => ?_)
              refine lv_aload_n hx hb d_Words_split_48 rfl (lv_at hl 3 rfl) ?_
              refine lv_iload_n hx hb d_Words_split_49 rfl (lv_at hl 0 rfl) ?_
              have hPc := hP.sub (ws' := [(oT, .inr (5, [.ref aT, .int tl])), (aT, .inl (cB, 800, .inl tf))]) [4, 5] rfl
              have hDc := hD.sub (ws' := [(oT, .inr (5, [.ref aT, .int tl])), (aT, .inl (cB, 800, .inl tf))]) [4, 5] (by decide) rfl
              have hFc := va_free (wc := [(oT, .inr (5, [.ref aT, .int tl])), (aT, .inl (cB, 800, .inl tf))]) hD hS hA [4, 5] rfl
              refine va_calli (va_runS (As := [.ref oT, .int z_5]) (rest := []) ⟨hx, hb, hml, hown, htb⟩ (c_Words_behindWord l dC dI cB cI cJ oT aT _ z_5 tl tf (bb_0 hz_5 p0) (bb_2 hz_5 p0 p1 c_4)) ⟨callB_of 2 htb (gb_all mb_234) rfl rfl rfl (htb _ mb_4) (htb _ mb_232) (by decide +kernel) ⟨Nat.le_of_ble_eq_true rfl, Nat.le_of_ble_eq_true rfl⟩, htb _ mb_233⟩ ⟨kb_blind, kb_at hPc hDc hKx⟩ rfl rfl hl.1 rfl (lv_room (Nat.le_of_ble_eq_true rfl)) d_Words_split_50 ⟨Nat.le_of_ble_eq_true rfl, Nat.le_of_ble_eq_true rfl⟩) hS (fun q _ h => hFc q h) hFc (fun z_6 u t H1 locs ht hvm hw hB hz1 hk1 hS => ?_)
              have hz_6 := hw
              have hF := hF.trans (lt_e hz_6)
              obtain ⟨hP1, hD1⟩ := hB
              rw [ht] at hP1
              obtain ⟨hP, hD⟩ := va_join (wr := [(oW, .inr (6, [.ref aK, .ref aP, .ref aO, .int 0])), (aK, .inl (cI, 121, .inl xk)), (aP, .inl (cI, 121, .inl xp)), (aO, .inl (cJ, 121, .inr (.inl xw)))]) (w1 := [(oT, .inr (5, [.ref aT, .int tl])), (aT, .inl (cB, 800, .inl tf))]) hP hD [4, 5] [0, 1, 2, 3] rfl rfl (by decide) (by decide) hk1 hFc hP1 hD1
              generalize H1 = H at hP hS ⊢
              have hP : va_P (dC, dI) vwCl [(oW, .inr (6, [.ref aK, .ref aP, .ref aO, .int 0])), (aK, .inl (cI, 121, .inl xk)), (aP, .inl (cI, 121, .inl xp)), (aO, .inl (cJ, 121, .inr (.inl xw))), (oT, .inr (5, [.ref aT, .int tl])), (aT, .inl (cB, 800, .inl tf))] H := hP
              have hD : va_D A [(oW, .inr (6, [.ref aK, .ref aP, .ref aO, .int 0])), (aK, .inl (cI, 121, .inl xk)), (aP, .inl (cI, 121, .inl xp)), (aO, .inl (cJ, 121, .inr (.inl xw))), (oT, .inr (5, [.ref aT, .int tl])), (aT, .inl (cB, 800, .inl tf))] := hD
              refine lv_istore (lv' := [(4, .int z_6), (2, .int z_5), (3, .int i), (0, .ref oW), (1, .ref oT)]) hx hb d_Words_split_53 hl (by decide) rfl (fun ls hl => ?_)
              refine lv_aload_n hx hb d_Words_split_55 rfl (lv_at hl 4 rfl) ?_
              refine lv_iload_n hx hb d_Words_split_56 rfl (lv_at hl 1 rfl) ?_
              refine lv_iload hx hb d_Words_split_57 (lv_at hl 0 rfl) ?_
              have hPc := hP.sub (ws' := [(oT, .inr (5, [.ref aT, .int tl])), (aT, .inl (cB, 800, .inl tf))]) [4, 5] rfl
              have hDc := hD.sub (ws' := [(oT, .inr (5, [.ref aT, .int tl])), (aT, .inl (cB, 800, .inl tf))]) [4, 5] (by decide) rfl
              have hFc := va_free (wc := [(oT, .inr (5, [.ref aT, .int tl])), (aT, .inl (cB, 800, .inl tf))]) hD hS hA [4, 5] rfl
              refine va_calli (va_runS (As := [.ref oT, .int z_5, .int z_6]) (rest := []) ⟨hx, hb, hml, hown, htb⟩ (c_Words_kindOf l dC dI cB cI cJ oT aT _ z_5 z_6 tl tf ) ⟨callB_of 3 htb (gb_all mb_243) rfl rfl rfl (htb _ mb_4) (htb _ mb_241) (by decide +kernel) ⟨Nat.le_of_ble_eq_true rfl, Nat.le_of_ble_eq_true rfl⟩, htb _ mb_242⟩ ⟨kb_blind, kb_at hPc hDc hKx⟩ rfl rfl hl.1 rfl (lv_room (Nat.le_of_ble_eq_true rfl)) d_Words_split_59 ⟨Nat.le_of_ble_eq_true rfl, Nat.le_of_ble_eq_true rfl⟩) hS (fun q _ h => hFc q h) hFc (fun z_7 u t H1 locs ht hvm hw hB hz1 hk1 hS => ?_)
              have hz_7 := hw
              have hF := hF.trans (lt_e hz_7)
              obtain ⟨hP1, hD1⟩ := hB
              rw [ht] at hP1
              obtain ⟨hP, hD⟩ := va_join (wr := [(oW, .inr (6, [.ref aK, .ref aP, .ref aO, .int 0])), (aK, .inl (cI, 121, .inl xk)), (aP, .inl (cI, 121, .inl xp)), (aO, .inl (cJ, 121, .inr (.inl xw)))]) (w1 := [(oT, .inr (5, [.ref aT, .int tl])), (aT, .inl (cB, 800, .inl tf))]) hP hD [4, 5] [0, 1, 2, 3] rfl rfl (by decide) (by decide) hk1 hFc hP1 hD1
              generalize H1 = H at hP hS ⊢
              have hP : va_P (dC, dI) vwCl [(oW, .inr (6, [.ref aK, .ref aP, .ref aO, .int 0])), (aK, .inl (cI, 121, .inl xk)), (aP, .inl (cI, 121, .inl xp)), (aO, .inl (cJ, 121, .inr (.inl xw))), (oT, .inr (5, [.ref aT, .int tl])), (aT, .inl (cB, 800, .inl tf))] H := hP
              have hD : va_D A [(oW, .inr (6, [.ref aK, .ref aP, .ref aO, .int 0])), (aK, .inl (cI, 121, .inl xk)), (aP, .inl (cI, 121, .inl xp)), (aO, .inl (cJ, 121, .inr (.inl xw))), (oT, .inr (5, [.ref aT, .int tl])), (aT, .inl (cB, 800, .inl tf))] := hD
              refine lv_istore (lv' := [(5, .int z_7), (4, .int z_6), (2, .int z_5), (3, .int i), (0, .ref oW), (1, .ref oT)]) hx hb d_Words_split_62 hl (by decide) rfl (fun ls hl => ?_)
              refine lv_iload_n hx hb d_Words_split_64 rfl (lv_at hl 3 rfl) ?_
              refine lv_bipush (v := 120) hx hb d_Words_split_65 (by decide) ?_
              refine lv_icmp_ne (tgt := 78) hx hb d_Words_split_67 (by decide) (fun c_8 => ?_) (fun c_8 => ?_)
              · have hF := hF.trans (if_neg c_8)
                refine lv_aload_n hx hb d_Words_split_78 rfl (lv_at hl 4 rfl) ?_
                refine va_get (D := (dC, dI)) (ci := 6) (v := .ref aK) (C := "PermitRules$Words") (T := T_Words) (N := 4) hx hb htb in_Words hown hK hP 0 rfl rfl 0 (by decide) (htb _ mb_50) (fun _ h9 => h9) rfl d_Words_split_79 ?_
                refine lv_iload_n hx hb d_Words_split_82 rfl (lv_at hl 3 rfl) ?_
                refine lv_iload hx hb d_Words_split_83 (lv_at hl 0 rfl) ?_
                refine va_iast hx hb hK hP hD hS 1 1 rfl rfl (oi_in (N := 121) (by decide) i0 c_4) d_Words_split_85 (fun H locs hP hD hS => ?_)
                have hP : va_P (dC, dI) vwCl [(oW, .inr (6, [.ref aK, .ref aP, .ref aO, .int 0])), (aK, .inl (cI, 121, .inl (upd xk i.toNatClampNeg z_7))), (aP, .inl (cI, 121, .inl xp)), (aO, .inl (cJ, 121, .inr (.inl xw))), (oT, .inr (5, [.ref aT, .int tl])), (aT, .inl (cB, 800, .inl tf))] H := hP
                have hD : va_D A [(oW, .inr (6, [.ref aK, .ref aP, .ref aO, .int 0])), (aK, .inl (cI, 121, .inl (upd xk i.toNatClampNeg z_7))), (aP, .inl (cI, 121, .inl xp)), (aO, .inl (cJ, 121, .inr (.inl xw))), (oT, .inr (5, [.ref aT, .int tl])), (aT, .inl (cB, 800, .inl tf))] := hD
                refine lv_aload_n hx hb d_Words_split_86 rfl (lv_at hl 4 rfl) ?_
                refine va_get (D := (dC, dI)) (ci := 6) (v := .ref aP) (C := "PermitRules$Words") (T := T_Words) (N := 4) hx hb htb in_Words hown hK hP 0 rfl rfl 1 (by decide) (htb _ mb_51) (fun _ h9 => h9) rfl d_Words_split_87 ?_
                refine lv_iload_n hx hb d_Words_split_90 rfl (lv_at hl 3 rfl) ?_
                refine lv_iload_n hx hb d_Words_split_91 rfl (lv_at hl 2 rfl) ?_
                refine va_iast hx hb hK hP hD hS 2 1 rfl rfl (oi_in (N := 121) (by decide) i0 c_4) d_Words_split_92 (fun H locs hP hD hS => ?_)
                have hP : va_P (dC, dI) vwCl [(oW, .inr (6, [.ref aK, .ref aP, .ref aO, .int 0])), (aK, .inl (cI, 121, .inl (upd xk i.toNatClampNeg z_7))), (aP, .inl (cI, 121, .inl (upd xp i.toNatClampNeg z_5))), (aO, .inl (cJ, 121, .inr (.inl xw))), (oT, .inr (5, [.ref aT, .int tl])), (aT, .inl (cB, 800, .inl tf))] H := hP
                have hD : va_D A [(oW, .inr (6, [.ref aK, .ref aP, .ref aO, .int 0])), (aK, .inl (cI, 121, .inl (upd xk i.toNatClampNeg z_7))), (aP, .inl (cI, 121, .inl (upd xp i.toNatClampNeg z_5))), (aO, .inl (cJ, 121, .inr (.inl xw))), (oT, .inr (5, [.ref aT, .int tl])), (aT, .inl (cB, 800, .inl tf))] := hD
                refine lv_aload_n hx hb d_Words_split_93 rfl (lv_at hl 4 rfl) ?_
                refine va_get (D := (dC, dI)) (ci := 6) (v := .ref aO) (C := "PermitRules$Words") (T := T_Words) (N := 4) hx hb htb in_Words hown hK hP 0 rfl rfl 2 (by decide) (htb _ mb_52) (fun _ h9 => h9) rfl d_Words_split_94 ?_
                refine lv_iload_n hx hb d_Words_split_97 rfl (lv_at hl 3 rfl) ?_
                refine lv_aload_n hx hb d_Words_split_98 rfl (lv_at hl 5 rfl) ?_
                refine lv_iload_n hx hb d_Words_split_99 rfl (lv_at hl 2 rfl) ?_
                refine lv_iload hx hb d_Words_split_100 (lv_at hl 1 rfl) ?_
                refine lv_iload hx hb d_Words_split_102 (lv_at hl 0 rfl) ?_
                have hPc := hP.sub (ws' := [(oT, .inr (5, [.ref aT, .int tl])), (aT, .inl (cB, 800, .inl tf))]) [4, 5] rfl
                have hDc := hD.sub (ws' := [(oT, .inr (5, [.ref aT, .int tl])), (aT, .inl (cB, 800, .inl tf))]) [4, 5] (by decide) rfl
                have hFc := va_free (wc := [(oT, .inr (5, [.ref aT, .int tl])), (aT, .inl (cB, 800, .inl tf))]) hD hS hA [4, 5] rfl
                refine va_calll (va_runS (As := [.ref oT, .int z_5, .int z_6, .int z_7]) (rest := [.int i, .ref aO]) ⟨hx, hb, hml, hown, htb⟩ (c_Words_worthOf l dC dI cB cI cJ oT aT _ z_5 z_6 z_7 tl tf ) ⟨callB_of 4 htb (gb_all mb_246) rfl rfl rfl (htb _ mb_4) (htb _ mb_244) (by decide +kernel) ⟨Nat.le_of_ble_eq_true rfl, Nat.le_of_ble_eq_true rfl⟩, htb _ mb_245⟩ ⟨kb_blind, kb_at hPc hDc hKx⟩ rfl rfl hl.1 rfl (lv_room (Nat.le_of_ble_eq_true rfl)) d_Words_split_104 ⟨Nat.le_of_ble_eq_true rfl, Nat.le_of_ble_eq_true rfl⟩) hS (fun q _ h => hFc q h) hFc (fun z_9 u t H1 locs ht hvm hw hB hz1 hk1 hS => ?_)
                have hz_9 := hw
                have hF := hF.trans (lt_e hz_9)
                obtain ⟨hP1, hD1⟩ := hB
                rw [ht] at hP1
                obtain ⟨hP, hD⟩ := va_join (wr := [(oW, .inr (6, [.ref aK, .ref aP, .ref aO, .int 0])), (aK, .inl (cI, 121, .inl (upd xk i.toNatClampNeg z_7))), (aP, .inl (cI, 121, .inl (upd xp i.toNatClampNeg z_5))), (aO, .inl (cJ, 121, .inr (.inl xw)))]) (w1 := [(oT, .inr (5, [.ref aT, .int tl])), (aT, .inl (cB, 800, .inl tf))]) hP hD [4, 5] [0, 1, 2, 3] rfl rfl (by decide) (by decide) hk1 hFc hP1 hD1
                generalize H1 = H at hP hS ⊢
                have hP : va_P (dC, dI) vwCl [(oW, .inr (6, [.ref aK, .ref aP, .ref aO, .int 0])), (aK, .inl (cI, 121, .inl (upd xk i.toNatClampNeg z_7))), (aP, .inl (cI, 121, .inl (upd xp i.toNatClampNeg z_5))), (aO, .inl (cJ, 121, .inr (.inl xw))), (oT, .inr (5, [.ref aT, .int tl])), (aT, .inl (cB, 800, .inl tf))] H := hP
                have hD : va_D A [(oW, .inr (6, [.ref aK, .ref aP, .ref aO, .int 0])), (aK, .inl (cI, 121, .inl (upd xk i.toNatClampNeg z_7))), (aP, .inl (cI, 121, .inl (upd xp i.toNatClampNeg z_5))), (aO, .inl (cJ, 121, .inr (.inl xw))), (oT, .inr (5, [.ref aT, .int tl])), (aT, .inl (cB, 800, .inl tf))] := hD
                refine va_last hx hb hK hP hD hS 3 2 rfl rfl (oi_in (N := 121) (by decide) i0 c_4) d_Words_split_107 (fun H locs hP hD hS => ?_)
                have hP : va_P (dC, dI) vwCl [(oW, .inr (6, [.ref aK, .ref aP, .ref aO, .int 0])), (aK, .inl (cI, 121, .inl (upd xk i.toNatClampNeg z_7))), (aP, .inl (cI, 121, .inl (upd xp i.toNatClampNeg z_5))), (aO, .inl (cJ, 121, .inr (.inl (vp_updL xw i.toNatClampNeg z_9)))), (oT, .inr (5, [.ref aT, .int tl])), (aT, .inl (cB, 800, .inl tf))] H := hP
                have hD : va_D A [(oW, .inr (6, [.ref aK, .ref aP, .ref aO, .int 0])), (aK, .inl (cI, 121, .inl (upd xk i.toNatClampNeg z_7))), (aP, .inl (cI, 121, .inl (upd xp i.toNatClampNeg z_5))), (aO, .inl (cJ, 121, .inr (.inl (vp_updL xw i.toNatClampNeg z_9)))), (oT, .inr (5, [.ref aT, .int tl])), (aT, .inl (cB, 800, .inl tf))] := hD
                refine lv_iload hx hb d_Words_split_108 (lv_at hl 0 rfl) ?_
                refine lv_if_eq (tgt := 119) hx hb d_Words_split_110 (by decide) (fun c_10 => ?_) (fun c_10 => ?_)
                · have hF := hF.trans (if_pos c_10)
                  have hP9 := hP.sub (ws' := [(oW, .inr (6, [.ref aK, .ref aP, .ref aO, .int 0])), (aK, .inl (cI, 121, .inl (upd xk i.toNatClampNeg z_7))), (aP, .inl (cI, 121, .inl (upd xp i.toNatClampNeg z_5))), (aO, .inl (cJ, 121, .inr (.inl (vp_updL xw i.toNatClampNeg z_9)))), (oT, .inr (5, [.ref aT, .int tl])), (aT, .inl (cB, 800, .inl tf))]) [0, 1, 2, 3, 4, 5] rfl
                  have hD9 := hD.sub (ws' := [(oW, .inr (6, [.ref aK, .ref aP, .ref aO, .int 0])), (aK, .inl (cI, 121, .inl (upd xk i.toNatClampNeg z_7))), (aP, .inl (cI, 121, .inl (upd xp i.toNatClampNeg z_5))), (aO, .inl (cJ, 121, .inr (.inl (vp_updL xw i.toNatClampNeg z_9)))), (oT, .inr (5, [.ref aT, .int tl])), (aT, .inl (cB, 800, .inl tf))]) [0, 1, 2, 3, 4, 5] (by decide) rfl
                  exact W.vret hx hb hr (fun t ht hW => ⟨⟨(0, upd xk i.toNatClampNeg z_7, upd xp i.toNatClampNeg z_5, vp_updL xw i.toNatClampNeg z_9), rfl, by rw [hF], by rw [ht]; exact hP9, hD9⟩, hS.F ht⟩) hS.2.2 d_Words_split_119
                · have hF := hF.trans (if_neg c_10)
                  refine lv_iload hx hb d_Words_split_113 (lv_at hl 0 rfl) ?_
                  refine lv_iconst (v := 1) hx hb d_Words_split_115 (by decide) ?_
                  refine lv_icmp_ne (tgt := 120) hx hb d_Words_split_116 (by decide) (fun c_11 => ?_) (fun c_11 => ?_)
                  · have hF := hF.trans (if_neg c_11)
                    refine lv_iload hx hb d_Words_split_120 (lv_at hl 1 rfl) ?_
                    refine lv_istore_n (lv' := [(2, .int z_6), (5, .int z_7), (4, .int z_6), (3, .int i), (0, .ref oW), (1, .ref oT)]) hx hb d_Words_split_122 rfl hl (by decide) rfl (fun ls hl => ?_)
                    refine lv_iinc (v := i + 1) (lv' := [(3, .int (i + 1)), (2, .int z_6), (5, .int z_7), (4, .int z_6), (0, .ref oW), (1, .ref oT)]) hx hb d_Words_split_123 hl (k := 3) rfl (by first | rfl | decide) (by decide) rfl (fun ls hl => ?_)
                    refine lv_goto (tgt := 9) hx hb d_Words_split_126 (by decide) ?_
                    exact ih (i + 1) z_6 (upd xk i.toNatClampNeg z_7) (upd xp i.toNatClampNeg z_5) (vp_updL xw i.toNatClampNeg z_9) (oi_s i0 c_4 (by decide) hn).1 (bw_0 hz_6 (bb_0 hz_5 p0) (bb_2 hz_5 p0 p1 c_4)) (bw_2 hz_5 hz_6 i0 p0 p1 c_4) (oi_s i0 c_4 (by decide) hn).2 hF _ _ _ (hP.sub [0, 1, 2, 3, 4, 5] rfl) (hD.sub [0, 1, 2, 3, 4, 5] (by decide) rfl) hS (lv_sub hl [0, 1, 4, 5] rfl)
                  · have hF := hF.trans (if_pos c_11)
                    have hP9 := hP.sub (ws' := [(oW, .inr (6, [.ref aK, .ref aP, .ref aO, .int 0])), (aK, .inl (cI, 121, .inl (upd xk i.toNatClampNeg z_7))), (aP, .inl (cI, 121, .inl (upd xp i.toNatClampNeg z_5))), (aO, .inl (cJ, 121, .inr (.inl (vp_updL xw i.toNatClampNeg z_9)))), (oT, .inr (5, [.ref aT, .int tl])), (aT, .inl (cB, 800, .inl tf))]) [0, 1, 2, 3, 4, 5] rfl
                    have hD9 := hD.sub (ws' := [(oW, .inr (6, [.ref aK, .ref aP, .ref aO, .int 0])), (aK, .inl (cI, 121, .inl (upd xk i.toNatClampNeg z_7))), (aP, .inl (cI, 121, .inl (upd xp i.toNatClampNeg z_5))), (aO, .inl (cJ, 121, .inr (.inl (vp_updL xw i.toNatClampNeg z_9)))), (oT, .inr (5, [.ref aT, .int tl])), (aT, .inl (cB, 800, .inl tf))]) [0, 1, 2, 3, 4, 5] (by decide) rfl
                    exact W.vret hx hb hr (fun t ht hW => ⟨⟨(0, upd xk i.toNatClampNeg z_7, upd xp i.toNatClampNeg z_5, vp_updL xw i.toNatClampNeg z_9), rfl, by rw [hF], by rw [ht]; exact hP9, hD9⟩, hS.F ht⟩) hS.2.2 d_Words_split_119
              · have hF := hF.trans (if_pos c_8)
                refine lv_iload hx hb d_Words_split_70 (lv_at hl 0 rfl) ?_
                refine lv_if_eq (tgt := 78) hx hb d_Words_split_72 (by decide) (fun c_12 => ?_) (fun c_12 => ?_)
                · have hF := hF.trans (if_pos c_12)
                  refine lv_aload_n hx hb d_Words_split_78 rfl (lv_at hl 4 rfl) ?_
                  refine va_get (D := (dC, dI)) (ci := 6) (v := .ref aK) (C := "PermitRules$Words") (T := T_Words) (N := 4) hx hb htb in_Words hown hK hP 0 rfl rfl 0 (by decide) (htb _ mb_50) (fun _ h9 => h9) rfl d_Words_split_79 ?_
                  refine lv_iload_n hx hb d_Words_split_82 rfl (lv_at hl 3 rfl) ?_
                  refine lv_iload hx hb d_Words_split_83 (lv_at hl 0 rfl) ?_
                  refine va_iast hx hb hK hP hD hS 1 1 rfl rfl (oi_in (N := 121) (by decide) i0 c_4) d_Words_split_85 (fun H locs hP hD hS => ?_)
                  have hP : va_P (dC, dI) vwCl [(oW, .inr (6, [.ref aK, .ref aP, .ref aO, .int 0])), (aK, .inl (cI, 121, .inl (upd xk i.toNatClampNeg z_7))), (aP, .inl (cI, 121, .inl xp)), (aO, .inl (cJ, 121, .inr (.inl xw))), (oT, .inr (5, [.ref aT, .int tl])), (aT, .inl (cB, 800, .inl tf))] H := hP
                  have hD : va_D A [(oW, .inr (6, [.ref aK, .ref aP, .ref aO, .int 0])), (aK, .inl (cI, 121, .inl (upd xk i.toNatClampNeg z_7))), (aP, .inl (cI, 121, .inl xp)), (aO, .inl (cJ, 121, .inr (.inl xw))), (oT, .inr (5, [.ref aT, .int tl])), (aT, .inl (cB, 800, .inl tf))] := hD
                  refine lv_aload_n hx hb d_Words_split_86 rfl (lv_at hl 4 rfl) ?_
                  refine va_get (D := (dC, dI)) (ci := 6) (v := .ref aP) (C := "PermitRules$Words") (T := T_Words) (N := 4) hx hb htb in_Words hown hK hP 0 rfl rfl 1 (by decide) (htb _ mb_51) (fun _ h9 => h9) rfl d_Words_split_87 ?_
                  refine lv_iload_n hx hb d_Words_split_90 rfl (lv_at hl 3 rfl) ?_
                  refine lv_iload_n hx hb d_Words_split_91 rfl (lv_at hl 2 rfl) ?_
                  refine va_iast hx hb hK hP hD hS 2 1 rfl rfl (oi_in (N := 121) (by decide) i0 c_4) d_Words_split_92 (fun H locs hP hD hS => ?_)
                  have hP : va_P (dC, dI) vwCl [(oW, .inr (6, [.ref aK, .ref aP, .ref aO, .int 0])), (aK, .inl (cI, 121, .inl (upd xk i.toNatClampNeg z_7))), (aP, .inl (cI, 121, .inl (upd xp i.toNatClampNeg z_5))), (aO, .inl (cJ, 121, .inr (.inl xw))), (oT, .inr (5, [.ref aT, .int tl])), (aT, .inl (cB, 800, .inl tf))] H := hP
                  have hD : va_D A [(oW, .inr (6, [.ref aK, .ref aP, .ref aO, .int 0])), (aK, .inl (cI, 121, .inl (upd xk i.toNatClampNeg z_7))), (aP, .inl (cI, 121, .inl (upd xp i.toNatClampNeg z_5))), (aO, .inl (cJ, 121, .inr (.inl xw))), (oT, .inr (5, [.ref aT, .int tl])), (aT, .inl (cB, 800, .inl tf))] := hD
                  refine lv_aload_n hx hb d_Words_split_93 rfl (lv_at hl 4 rfl) ?_
                  refine va_get (D := (dC, dI)) (ci := 6) (v := .ref aO) (C := "PermitRules$Words") (T := T_Words) (N := 4) hx hb htb in_Words hown hK hP 0 rfl rfl 2 (by decide) (htb _ mb_52) (fun _ h9 => h9) rfl d_Words_split_94 ?_
                  refine lv_iload_n hx hb d_Words_split_97 rfl (lv_at hl 3 rfl) ?_
                  refine lv_aload_n hx hb d_Words_split_98 rfl (lv_at hl 5 rfl) ?_
                  refine lv_iload_n hx hb d_Words_split_99 rfl (lv_at hl 2 rfl) ?_
                  refine lv_iload hx hb d_Words_split_100 (lv_at hl 1 rfl) ?_
                  refine lv_iload hx hb d_Words_split_102 (lv_at hl 0 rfl) ?_
                  have hPc := hP.sub (ws' := [(oT, .inr (5, [.ref aT, .int tl])), (aT, .inl (cB, 800, .inl tf))]) [4, 5] rfl
                  have hDc := hD.sub (ws' := [(oT, .inr (5, [.ref aT, .int tl])), (aT, .inl (cB, 800, .inl tf))]) [4, 5] (by decide) rfl
                  have hFc := va_free (wc := [(oT, .inr (5, [.ref aT, .int tl])), (aT, .inl (cB, 800, .inl tf))]) hD hS hA [4, 5] rfl
                  refine va_calll (va_runS (As := [.ref oT, .int z_5, .int z_6, .int z_7]) (rest := [.int i, .ref aO]) ⟨hx, hb, hml, hown, htb⟩ (c_Words_worthOf l dC dI cB cI cJ oT aT _ z_5 z_6 z_7 tl tf ) ⟨callB_of 4 htb (gb_all mb_246) rfl rfl rfl (htb _ mb_4) (htb _ mb_244) (by decide +kernel) ⟨Nat.le_of_ble_eq_true rfl, Nat.le_of_ble_eq_true rfl⟩, htb _ mb_245⟩ ⟨kb_blind, kb_at hPc hDc hKx⟩ rfl rfl hl.1 rfl (lv_room (Nat.le_of_ble_eq_true rfl)) d_Words_split_104 ⟨Nat.le_of_ble_eq_true rfl, Nat.le_of_ble_eq_true rfl⟩) hS (fun q _ h => hFc q h) hFc (fun z_13 u t H1 locs ht hvm hw hB hz1 hk1 hS => ?_)
                  have hz_13 := hw
                  have hF := hF.trans (lt_e hz_13)
                  obtain ⟨hP1, hD1⟩ := hB
                  rw [ht] at hP1
                  obtain ⟨hP, hD⟩ := va_join (wr := [(oW, .inr (6, [.ref aK, .ref aP, .ref aO, .int 0])), (aK, .inl (cI, 121, .inl (upd xk i.toNatClampNeg z_7))), (aP, .inl (cI, 121, .inl (upd xp i.toNatClampNeg z_5))), (aO, .inl (cJ, 121, .inr (.inl xw)))]) (w1 := [(oT, .inr (5, [.ref aT, .int tl])), (aT, .inl (cB, 800, .inl tf))]) hP hD [4, 5] [0, 1, 2, 3] rfl rfl (by decide) (by decide) hk1 hFc hP1 hD1
                  generalize H1 = H at hP hS ⊢
                  have hP : va_P (dC, dI) vwCl [(oW, .inr (6, [.ref aK, .ref aP, .ref aO, .int 0])), (aK, .inl (cI, 121, .inl (upd xk i.toNatClampNeg z_7))), (aP, .inl (cI, 121, .inl (upd xp i.toNatClampNeg z_5))), (aO, .inl (cJ, 121, .inr (.inl xw))), (oT, .inr (5, [.ref aT, .int tl])), (aT, .inl (cB, 800, .inl tf))] H := hP
                  have hD : va_D A [(oW, .inr (6, [.ref aK, .ref aP, .ref aO, .int 0])), (aK, .inl (cI, 121, .inl (upd xk i.toNatClampNeg z_7))), (aP, .inl (cI, 121, .inl (upd xp i.toNatClampNeg z_5))), (aO, .inl (cJ, 121, .inr (.inl xw))), (oT, .inr (5, [.ref aT, .int tl])), (aT, .inl (cB, 800, .inl tf))] := hD
                  refine va_last hx hb hK hP hD hS 3 2 rfl rfl (oi_in (N := 121) (by decide) i0 c_4) d_Words_split_107 (fun H locs hP hD hS => ?_)
                  have hP : va_P (dC, dI) vwCl [(oW, .inr (6, [.ref aK, .ref aP, .ref aO, .int 0])), (aK, .inl (cI, 121, .inl (upd xk i.toNatClampNeg z_7))), (aP, .inl (cI, 121, .inl (upd xp i.toNatClampNeg z_5))), (aO, .inl (cJ, 121, .inr (.inl (vp_updL xw i.toNatClampNeg z_13)))), (oT, .inr (5, [.ref aT, .int tl])), (aT, .inl (cB, 800, .inl tf))] H := hP
                  have hD : va_D A [(oW, .inr (6, [.ref aK, .ref aP, .ref aO, .int 0])), (aK, .inl (cI, 121, .inl (upd xk i.toNatClampNeg z_7))), (aP, .inl (cI, 121, .inl (upd xp i.toNatClampNeg z_5))), (aO, .inl (cJ, 121, .inr (.inl (vp_updL xw i.toNatClampNeg z_13)))), (oT, .inr (5, [.ref aT, .int tl])), (aT, .inl (cB, 800, .inl tf))] := hD
                  refine lv_iload hx hb d_Words_split_108 (lv_at hl 0 rfl) ?_
                  refine lv_if_eq (tgt := 119) hx hb d_Words_split_110 (by decide) (fun c_14 => ?_) (fun c_14 => ?_)
                  · have hF := hF.trans (if_pos c_14)
                    have hP9 := hP.sub (ws' := [(oW, .inr (6, [.ref aK, .ref aP, .ref aO, .int 0])), (aK, .inl (cI, 121, .inl (upd xk i.toNatClampNeg z_7))), (aP, .inl (cI, 121, .inl (upd xp i.toNatClampNeg z_5))), (aO, .inl (cJ, 121, .inr (.inl (vp_updL xw i.toNatClampNeg z_13)))), (oT, .inr (5, [.ref aT, .int tl])), (aT, .inl (cB, 800, .inl tf))]) [0, 1, 2, 3, 4, 5] rfl
                    have hD9 := hD.sub (ws' := [(oW, .inr (6, [.ref aK, .ref aP, .ref aO, .int 0])), (aK, .inl (cI, 121, .inl (upd xk i.toNatClampNeg z_7))), (aP, .inl (cI, 121, .inl (upd xp i.toNatClampNeg z_5))), (aO, .inl (cJ, 121, .inr (.inl (vp_updL xw i.toNatClampNeg z_13)))), (oT, .inr (5, [.ref aT, .int tl])), (aT, .inl (cB, 800, .inl tf))]) [0, 1, 2, 3, 4, 5] (by decide) rfl
                    exact W.vret hx hb hr (fun t ht hW => ⟨⟨(0, upd xk i.toNatClampNeg z_7, upd xp i.toNatClampNeg z_5, vp_updL xw i.toNatClampNeg z_13), rfl, by rw [hF], by rw [ht]; exact hP9, hD9⟩, hS.F ht⟩) hS.2.2 d_Words_split_119
                  · have hF := hF.trans (if_neg c_14)
                    refine lv_iload hx hb d_Words_split_113 (lv_at hl 0 rfl) ?_
                    refine lv_iconst (v := 1) hx hb d_Words_split_115 (by decide) ?_
                    refine lv_icmp_ne (tgt := 120) hx hb d_Words_split_116 (by decide) (fun c_15 => ?_) (fun c_15 => ?_)
                    · have hF := hF.trans (if_neg c_15)
                      refine lv_iload hx hb d_Words_split_120 (lv_at hl 1 rfl) ?_
                      refine lv_istore_n (lv' := [(2, .int z_6), (5, .int z_7), (4, .int z_6), (3, .int i), (0, .ref oW), (1, .ref oT)]) hx hb d_Words_split_122 rfl hl (by decide) rfl (fun ls hl => ?_)
                      refine lv_iinc (v := i + 1) (lv' := [(3, .int (i + 1)), (2, .int z_6), (5, .int z_7), (4, .int z_6), (0, .ref oW), (1, .ref oT)]) hx hb d_Words_split_123 hl (k := 3) rfl (by first | rfl | decide) (by decide) rfl (fun ls hl => ?_)
                      refine lv_goto (tgt := 9) hx hb d_Words_split_126 (by decide) ?_
                      exact ih (i + 1) z_6 (upd xk i.toNatClampNeg z_7) (upd xp i.toNatClampNeg z_5) (vp_updL xw i.toNatClampNeg z_13) (oi_s i0 c_4 (by decide) hn).1 (bw_0 hz_6 (bb_0 hz_5 p0) (bb_2 hz_5 p0 p1 c_4)) (bw_2 hz_5 hz_6 i0 p0 p1 c_4) (oi_s i0 c_4 (by decide) hn).2 hF _ _ _ (hP.sub [0, 1, 2, 3, 4, 5] rfl) (hD.sub [0, 1, 2, 3, 4, 5] (by decide) rfl) hS (lv_sub hl [0, 1, 4, 5] rfl)
                    · have hF := hF.trans (if_pos c_15)
                      have hP9 := hP.sub (ws' := [(oW, .inr (6, [.ref aK, .ref aP, .ref aO, .int 0])), (aK, .inl (cI, 121, .inl (upd xk i.toNatClampNeg z_7))), (aP, .inl (cI, 121, .inl (upd xp i.toNatClampNeg z_5))), (aO, .inl (cJ, 121, .inr (.inl (vp_updL xw i.toNatClampNeg z_13)))), (oT, .inr (5, [.ref aT, .int tl])), (aT, .inl (cB, 800, .inl tf))]) [0, 1, 2, 3, 4, 5] rfl
                      have hD9 := hD.sub (ws' := [(oW, .inr (6, [.ref aK, .ref aP, .ref aO, .int 0])), (aK, .inl (cI, 121, .inl (upd xk i.toNatClampNeg z_7))), (aP, .inl (cI, 121, .inl (upd xp i.toNatClampNeg z_5))), (aO, .inl (cJ, 121, .inr (.inl (vp_updL xw i.toNatClampNeg z_13)))), (oT, .inr (5, [.ref aT, .int tl])), (aT, .inl (cB, 800, .inl tf))]) [0, 1, 2, 3, 4, 5] (by decide) rfl
                      exact W.vret hx hb hr (fun t ht hW => ⟨⟨(0, upd xk i.toNatClampNeg z_7, upd xp i.toNatClampNeg z_5, vp_updL xw i.toNatClampNeg z_13), rfl, by rw [hF], by rw [ht]; exact hP9, hD9⟩, hS.F ht⟩) hS.2.2 d_Words_split_119
                · have hF := hF.trans (if_neg c_12)
                  refine lv_iconst (v := 1) hx hb d_Words_split_75 (by decide) ?_
                  refine lv_istore (lv' := [(5, .int 1), (4, .int z_6), (2, .int z_5), (3, .int i), (0, .ref oW), (1, .ref oT)]) hx hb d_Words_split_76 hl (by decide) rfl (fun ls hl => ?_)
                  refine lv_aload_n hx hb d_Words_split_78 rfl (lv_at hl 4 rfl) ?_
                  refine va_get (D := (dC, dI)) (ci := 6) (v := .ref aK) (C := "PermitRules$Words") (T := T_Words) (N := 4) hx hb htb in_Words hown hK hP 0 rfl rfl 0 (by decide) (htb _ mb_50) (fun _ h9 => h9) rfl d_Words_split_79 ?_
                  refine lv_iload_n hx hb d_Words_split_82 rfl (lv_at hl 3 rfl) ?_
                  refine lv_iload hx hb d_Words_split_83 (lv_at hl 0 rfl) ?_
                  refine va_iast hx hb hK hP hD hS 1 1 rfl rfl (oi_in (N := 121) (by decide) i0 c_4) d_Words_split_85 (fun H locs hP hD hS => ?_)
                  have hP : va_P (dC, dI) vwCl [(oW, .inr (6, [.ref aK, .ref aP, .ref aO, .int 0])), (aK, .inl (cI, 121, .inl (upd xk i.toNatClampNeg 1))), (aP, .inl (cI, 121, .inl xp)), (aO, .inl (cJ, 121, .inr (.inl xw))), (oT, .inr (5, [.ref aT, .int tl])), (aT, .inl (cB, 800, .inl tf))] H := hP
                  have hD : va_D A [(oW, .inr (6, [.ref aK, .ref aP, .ref aO, .int 0])), (aK, .inl (cI, 121, .inl (upd xk i.toNatClampNeg 1))), (aP, .inl (cI, 121, .inl xp)), (aO, .inl (cJ, 121, .inr (.inl xw))), (oT, .inr (5, [.ref aT, .int tl])), (aT, .inl (cB, 800, .inl tf))] := hD
                  refine lv_aload_n hx hb d_Words_split_86 rfl (lv_at hl 4 rfl) ?_
                  refine va_get (D := (dC, dI)) (ci := 6) (v := .ref aP) (C := "PermitRules$Words") (T := T_Words) (N := 4) hx hb htb in_Words hown hK hP 0 rfl rfl 1 (by decide) (htb _ mb_51) (fun _ h9 => h9) rfl d_Words_split_87 ?_
                  refine lv_iload_n hx hb d_Words_split_90 rfl (lv_at hl 3 rfl) ?_
                  refine lv_iload_n hx hb d_Words_split_91 rfl (lv_at hl 2 rfl) ?_
                  refine va_iast hx hb hK hP hD hS 2 1 rfl rfl (oi_in (N := 121) (by decide) i0 c_4) d_Words_split_92 (fun H locs hP hD hS => ?_)
                  have hP : va_P (dC, dI) vwCl [(oW, .inr (6, [.ref aK, .ref aP, .ref aO, .int 0])), (aK, .inl (cI, 121, .inl (upd xk i.toNatClampNeg 1))), (aP, .inl (cI, 121, .inl (upd xp i.toNatClampNeg z_5))), (aO, .inl (cJ, 121, .inr (.inl xw))), (oT, .inr (5, [.ref aT, .int tl])), (aT, .inl (cB, 800, .inl tf))] H := hP
                  have hD : va_D A [(oW, .inr (6, [.ref aK, .ref aP, .ref aO, .int 0])), (aK, .inl (cI, 121, .inl (upd xk i.toNatClampNeg 1))), (aP, .inl (cI, 121, .inl (upd xp i.toNatClampNeg z_5))), (aO, .inl (cJ, 121, .inr (.inl xw))), (oT, .inr (5, [.ref aT, .int tl])), (aT, .inl (cB, 800, .inl tf))] := hD
                  refine lv_aload_n hx hb d_Words_split_93 rfl (lv_at hl 4 rfl) ?_
                  refine va_get (D := (dC, dI)) (ci := 6) (v := .ref aO) (C := "PermitRules$Words") (T := T_Words) (N := 4) hx hb htb in_Words hown hK hP 0 rfl rfl 2 (by decide) (htb _ mb_52) (fun _ h9 => h9) rfl d_Words_split_94 ?_
                  refine lv_iload_n hx hb d_Words_split_97 rfl (lv_at hl 3 rfl) ?_
                  refine lv_aload_n hx hb d_Words_split_98 rfl (lv_at hl 5 rfl) ?_
                  refine lv_iload_n hx hb d_Words_split_99 rfl (lv_at hl 2 rfl) ?_
                  refine lv_iload hx hb d_Words_split_100 (lv_at hl 1 rfl) ?_
                  refine lv_iload hx hb d_Words_split_102 (lv_at hl 0 rfl) ?_
                  have hPc := hP.sub (ws' := [(oT, .inr (5, [.ref aT, .int tl])), (aT, .inl (cB, 800, .inl tf))]) [4, 5] rfl
                  have hDc := hD.sub (ws' := [(oT, .inr (5, [.ref aT, .int tl])), (aT, .inl (cB, 800, .inl tf))]) [4, 5] (by decide) rfl
                  have hFc := va_free (wc := [(oT, .inr (5, [.ref aT, .int tl])), (aT, .inl (cB, 800, .inl tf))]) hD hS hA [4, 5] rfl
                  refine va_calll (va_runS (As := [.ref oT, .int z_5, .int z_6, .int 1]) (rest := [.int i, .ref aO]) ⟨hx, hb, hml, hown, htb⟩ (c_Words_worthOf l dC dI cB cI cJ oT aT _ z_5 z_6 1 tl tf ) ⟨callB_of 4 htb (gb_all mb_246) rfl rfl rfl (htb _ mb_4) (htb _ mb_244) (by decide +kernel) ⟨Nat.le_of_ble_eq_true rfl, Nat.le_of_ble_eq_true rfl⟩, htb _ mb_245⟩ ⟨kb_blind, kb_at hPc hDc hKx⟩ rfl rfl hl.1 rfl (lv_room (Nat.le_of_ble_eq_true rfl)) d_Words_split_104 ⟨Nat.le_of_ble_eq_true rfl, Nat.le_of_ble_eq_true rfl⟩) hS (fun q _ h => hFc q h) hFc (fun z_16 u t H1 locs ht hvm hw hB hz1 hk1 hS => ?_)
                  have hz_16 := hw
                  have hF := hF.trans (lt_e hz_16)
                  obtain ⟨hP1, hD1⟩ := hB
                  rw [ht] at hP1
                  obtain ⟨hP, hD⟩ := va_join (wr := [(oW, .inr (6, [.ref aK, .ref aP, .ref aO, .int 0])), (aK, .inl (cI, 121, .inl (upd xk i.toNatClampNeg 1))), (aP, .inl (cI, 121, .inl (upd xp i.toNatClampNeg z_5))), (aO, .inl (cJ, 121, .inr (.inl xw)))]) (w1 := [(oT, .inr (5, [.ref aT, .int tl])), (aT, .inl (cB, 800, .inl tf))]) hP hD [4, 5] [0, 1, 2, 3] rfl rfl (by decide) (by decide) hk1 hFc hP1 hD1
                  generalize H1 = H at hP hS ⊢
                  have hP : va_P (dC, dI) vwCl [(oW, .inr (6, [.ref aK, .ref aP, .ref aO, .int 0])), (aK, .inl (cI, 121, .inl (upd xk i.toNatClampNeg 1))), (aP, .inl (cI, 121, .inl (upd xp i.toNatClampNeg z_5))), (aO, .inl (cJ, 121, .inr (.inl xw))), (oT, .inr (5, [.ref aT, .int tl])), (aT, .inl (cB, 800, .inl tf))] H := hP
                  have hD : va_D A [(oW, .inr (6, [.ref aK, .ref aP, .ref aO, .int 0])), (aK, .inl (cI, 121, .inl (upd xk i.toNatClampNeg 1))), (aP, .inl (cI, 121, .inl (upd xp i.toNatClampNeg z_5))), (aO, .inl (cJ, 121, .inr (.inl xw))), (oT, .inr (5, [.ref aT, .int tl])), (aT, .inl (cB, 800, .inl tf))] := hD
                  refine va_last hx hb hK hP hD hS 3 2 rfl rfl (oi_in (N := 121) (by decide) i0 c_4) d_Words_split_107 (fun H locs hP hD hS => ?_)
                  have hP : va_P (dC, dI) vwCl [(oW, .inr (6, [.ref aK, .ref aP, .ref aO, .int 0])), (aK, .inl (cI, 121, .inl (upd xk i.toNatClampNeg 1))), (aP, .inl (cI, 121, .inl (upd xp i.toNatClampNeg z_5))), (aO, .inl (cJ, 121, .inr (.inl (vp_updL xw i.toNatClampNeg z_16)))), (oT, .inr (5, [.ref aT, .int tl])), (aT, .inl (cB, 800, .inl tf))] H := hP
                  have hD : va_D A [(oW, .inr (6, [.ref aK, .ref aP, .ref aO, .int 0])), (aK, .inl (cI, 121, .inl (upd xk i.toNatClampNeg 1))), (aP, .inl (cI, 121, .inl (upd xp i.toNatClampNeg z_5))), (aO, .inl (cJ, 121, .inr (.inl (vp_updL xw i.toNatClampNeg z_16)))), (oT, .inr (5, [.ref aT, .int tl])), (aT, .inl (cB, 800, .inl tf))] := hD
                  refine lv_iload hx hb d_Words_split_108 (lv_at hl 0 rfl) ?_
                  refine lv_if_eq (tgt := 119) hx hb d_Words_split_110 (by decide) (fun c_17 => ?_) (fun c_17 => ?_)
                  · exact absurd c_17 (by decide)
                  · skip
                    refine lv_iload hx hb d_Words_split_113 (lv_at hl 0 rfl) ?_
                    refine lv_iconst (v := 1) hx hb d_Words_split_115 (by decide) ?_
                    refine lv_icmp_ne (tgt := 120) hx hb d_Words_split_116 (by decide) (fun c_18 => ?_) (fun c_18 => ?_)
                    · exact absurd (by decide) c_18
                    · skip
                      have hP9 := hP.sub (ws' := [(oW, .inr (6, [.ref aK, .ref aP, .ref aO, .int 0])), (aK, .inl (cI, 121, .inl (upd xk i.toNatClampNeg 1))), (aP, .inl (cI, 121, .inl (upd xp i.toNatClampNeg z_5))), (aO, .inl (cJ, 121, .inr (.inl (vp_updL xw i.toNatClampNeg z_16)))), (oT, .inr (5, [.ref aT, .int tl])), (aT, .inl (cB, 800, .inl tf))]) [0, 1, 2, 3, 4, 5] rfl
                      have hD9 := hD.sub (ws' := [(oW, .inr (6, [.ref aK, .ref aP, .ref aO, .int 0])), (aK, .inl (cI, 121, .inl (upd xk i.toNatClampNeg 1))), (aP, .inl (cI, 121, .inl (upd xp i.toNatClampNeg z_5))), (aO, .inl (cJ, 121, .inr (.inl (vp_updL xw i.toNatClampNeg z_16)))), (oT, .inr (5, [.ref aT, .int tl])), (aT, .inl (cB, 800, .inl tf))]) [0, 1, 2, 3, 4, 5] (by decide) rfl
                      exact W.vret hx hb hr (fun t ht hW => ⟨⟨(0, upd xk i.toNatClampNeg 1, upd xp i.toNatClampNeg z_5, vp_updL xw i.toNatClampNeg z_16), rfl, by rw [hF], by rw [ht]; exact hP9, hD9⟩, hS.F ht⟩) hS.2.2 d_Words_split_119
  refine lv_aload_n hx hb d_Words_split_0 rfl (lv_at hl 0 rfl) ?_
  refine lv_iconst (v := 0) hx hb d_Words_split_1 (by decide) ?_
  refine va_put (D := (dC, dI)) (ci := 6) (v := .int 0) (ty := .int) (C := "PermitRules$Words") (T := T_Words) (N := 4) hx hb htb in_Words ty_Words to_Words nm_Words hown hK hP hD hS 0 rfl rfl 3 (by decide) (htb _ mb_53) (fun _ h9 => h9) rfl (by decide +kernel) rfl rfl (Nat.le_of_ble_eq_true rfl) d_Words_split_2 (fun H locs hP hD hS => ?_)
  have hP : va_P (dC, dI) vwCl [(oW, .inr (6, [.ref aK, .ref aP, .ref aO, .int 0])), (aK, .inl (cI, 121, .inl wk)), (aP, .inl (cI, 121, .inl wp)), (aO, .inl (cJ, 121, .inr (.inl ww))), (oT, .inr (5, [.ref aT, .int tl])), (aT, .inl (cB, 800, .inl tf))] H := hP
  have hD : va_D A [(oW, .inr (6, [.ref aK, .ref aP, .ref aO, .int 0])), (aK, .inl (cI, 121, .inl wk)), (aP, .inl (cI, 121, .inl wp)), (aO, .inl (cJ, 121, .inr (.inl ww))), (oT, .inr (5, [.ref aT, .int tl])), (aT, .inl (cB, 800, .inl tf))] := hD
  refine lv_iconst (v := 0) hx hb d_Words_split_5 (by decide) ?_
  refine lv_istore_n (lv' := [(2, .int 0), (0, .ref oW), (1, .ref oT)]) hx hb d_Words_split_6 rfl hl (by decide) rfl (fun ls hl => ?_)
  refine lv_iconst (v := 0) hx hb d_Words_split_7 (by decide) ?_
  refine lv_istore_n (lv' := [(3, .int 0), (2, .int 0), (0, .ref oW), (1, .ref oT)]) hx hb d_Words_split_8 rfl hl (by decide) rfl (fun ls hl => ?_)
  exact lp9 122 0 0 wk wp ww (by decide) (by decide) (by decide) (by decide) hF _ _ _ (hP.sub [0, 1, 2, 3, 4, 5] rfl) (hD.sub [0, 1, 2, 3, 4, 5] (by decide) rfl) hS (lv_sub hl [0, 1, 2, 3] rfl)
