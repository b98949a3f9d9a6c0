/-! the row of operators that wait -/
theorem rd_irr (le ds os ds' os' : Int32) (sk sk' : Nat → Int32) (sv sv' : Nat → Int64) (yo : Nat → Int32) : ∀ (n : Nat) (a b : Int32) (c : Nat → Int32) (d : Nat → Int64), f_Model_reduce_L0 le ds os sk sv yo n a b c d = f_Model_reduce_L0 le ds' os' sk' sv' yo n a b c d := by
  intro n
  induction n with
  | zero => intro a b c d; rfl
  | succ n ih =>
    intro a b c d
    rw [f_Model_reduce_L0_s, f_Model_reduce_L0_s]
    simp only [lt_]
    rw [ih]
theorem rd_stop {le xd xo : Int32} {yk yo : Nat → Int32} {yv : Nat → Int64} (h : xo.toInt ≤ 0 ∨ f_Model_rank (yo (xo - 1).toNatClampNeg) < le) : f_Model_reduce le xd xo yk yv yo = (xd, xo, yk, yv) := by
  unfold f_Model_reduce
  rw [f_Model_reduce_L0_s]
  simp only [lt_]
  by_cases g : xo ≤ 0
  · rw [if_pos g]
  · rw [if_neg g]
    rw [oi_le, oi_z] at g
    rcases h with h | h
    · exact absurd h g
    · rw [if_pos h]
theorem rd_pop {le xd xo : Int32} {yk yo : Nat → Int32} {yv : Nat → Int64} (h0 : 1 ≤ xo.toInt) (h : ¬ f_Model_rank (yo (xo - 1).toNatClampNeg) < le) : f_Model_reduce le xd xo yk yv yo = f_Model_reduce le (xd + 1) (xo - 1) (upd yk xd.toNatClampNeg (yo (xo - 1).toNatClampNeg)) (vp_updL yv xd.toNatClampNeg 0) yo := by
  have b := oi_hi xo
  have x1 : (xo - 1).toInt = xo.toInt - 1 := oi_subE rfl oi_1 (by omega) (by omega)
  have e : xo.toInt.toNat = (xo - 1).toInt.toNat + 1 := by omega
  unfold f_Model_reduce
  rw [f_Model_reduce_L0_s le xd xo yk yv yo xo.toInt.toNat, if_neg (show ¬ xo ≤ 0 by rw [oi_le, oi_z]; omega)]
  simp only [lt_]
  rw [if_neg h, e]
  unfold f_Model_step
  exact rd_irr _ _ _ _ _ _ _ _ _ _ _ _ _ _ _
def EQP : List Int32 → Nat → (Nat → Int32) → (Nat → Int64) → Nat → Nat → (Nat → Int32) → (Nat → Int64) → (Nat → Int32) → Prop
  | [], sc, bk, bw, xd, _, yk, yv, _ => sc = xd ∧ ∀ k, k < xd → SK (bk k) (yk k) ∧ bw k = yv k
  | a :: p, sc, bk, bw, xd, xo, yk, yv, yo => 1 ≤ xo ∧ yo (xo - 1) = a ∧ EQP p sc bk bw (xd + 1) (xo - 1) (upd yk xd a) (vp_updL yv xd 0) yo
theorem eqp_s {sc : Nat} {bk : Nat → Int32} {bw : Nat → Int64} {yo : Nat → Int32} : ∀ (p : List Int32) (xd xo : Nat) (yk : Nat → Int32) (yv : Nat → Int64), EQP p sc bk bw xd xo yk yv yo → sc = xd + p.length := by
  intro p
  induction p with
  | nil => intro xd xo yk yv h; exact h.1
  | cons a p ih =>
    intro xd xo yk yv h
    have := ih _ _ _ _ h.2.2
    rw [List.length_cons]
    omega
theorem eqp_a {sc : Nat} {bk : Nat → Int32} {bw : Nat → Int64} {yo : Nat → Int32} {a ca : Int32} (hs : SK ca a) : ∀ (p : List Int32) (xd xo : Nat) (yk : Nat → Int32) (yv : Nat → Int64), EQP p sc bk bw xd xo yk yv yo → p.length + 1 ≤ xo → yo (xo - p.length - 1) = a → EQP (p ++ [a]) (sc + 1) (upd bk sc ca) (vp_updL bw sc 0) xd xo yk yv yo := by
  intro p
  induction p with
  | nil =>
    intro xd xo yk yv h h1 h2
    obtain ⟨e, g⟩ := h
    subst e
    refine ⟨h1, h2, rfl, fun k hk => ?_⟩
    by_cases q : k = sc
    · rw [q, u32_s, u32_s, up_s, up_s]
      exact ⟨hs, rfl⟩
    · rw [u32_n _ _ q, u32_n _ _ q, up_n _ _ q, up_n _ _ q]
      exact g k (by omega)
  | cons b p ih =>
    intro xd xo yk yv h h1 h2
    rw [List.length_cons] at h1 h2
    exact ⟨h.1, h.2.1, ih _ _ _ _ h.2.2 (by omega) (by rw [show xo - 1 - p.length - 1 = xo - (p.length + 1) - 1 by omega]; exact h2)⟩
theorem rd_all {le : Int32} {sc : Nat} {bk : Nat → Int32} {bw : Nat → Int64} {yo : Nat → Int32} : ∀ (p : List Int32) (xd xo : Int32) (yk : Nat → Int32) (yv : Nat → Int64), EQP p sc bk bw xd.toInt.toNat xo.toInt.toNat yk yv yo → 0 ≤ xd.toInt → 0 ≤ xo.toInt → xd.toInt + (p.length : Int) ≤ 240 → (∀ a ∈ p, ¬ f_Model_rank a < le) → (xo.toInt - (p.length : Int) ≤ 0 ∨ f_Model_rank (yo (xo.toInt.toNat - p.length - 1)) < le) → ∃ X O yk' yv', f_Model_reduce le xd xo yk yv yo = (X, O, yk', yv') ∧ X.toInt = xd.toInt + (p.length : Int) ∧ O.toInt = xo.toInt - (p.length : Int) ∧ EQP [] sc bk bw X.toInt.toNat O.toInt.toNat yk' yv' yo ∧ ∀ j, 240 ≤ j → yk' j = yk j ∧ yv' j = yv j := by
  intro p
  induction p with
  | nil =>
    intro xd xo yk yv h h0 h1 h2 h3 h4
    have b := oi_hi xo
    refine ⟨xd, xo, yk, yv, rd_stop ?_, by simp, by simp, h, fun j _ => ⟨rfl, rfl⟩⟩
    rcases h4 with h4 | h4
    · left; simpa using h4
    · by_cases g : xo.toInt ≤ 0
      · exact Or.inl g
      · right
        have x1 : (xo - 1).toInt = xo.toInt - 1 := oi_subE rfl oi_1 (by omega) (by omega)
        rw [show (xo - 1).toNatClampNeg = xo.toInt.toNat - 0 - 1 by show (xo - 1).toInt.toNat = _; omega]
        exact h4
  | cons a p ih =>
    intro xd xo yk yv h h0 h1 h2 h3 h4
    obtain ⟨g1, g2, g3⟩ := h
    rw [List.length_cons] at h2 h4
    have b := oi_hi xo
    have x1 : (xo - 1).toInt = xo.toInt - 1 := oi_subE rfl oi_1 (by omega) (by omega)
    have d1 : (xd + 1).toInt = xd.toInt + 1 := oi_addE rfl oi_1 (by omega) (by omega)
    have xe : (xo - 1).toNatClampNeg = xo.toInt.toNat - 1 := by show (xo - 1).toInt.toNat = _; omega
    have xn : xd.toNatClampNeg = xd.toInt.toNat := rfl
    obtain ⟨X, O, yk', yv', e1, e2, e3, e4, e5⟩ := ih (xd + 1) (xo - 1) (upd yk xd.toInt.toNat a) (vp_updL yv xd.toInt.toNat 0) (by rw [show (xd + 1).toInt.toNat = xd.toInt.toNat + 1 by omega, show (xo - 1).toInt.toNat = xo.toInt.toNat - 1 by omega]; exact g3) (by omega) (by omega) (by omega) (fun q hq => h3 q (List.mem_cons_of_mem _ hq)) (by
      rcases h4 with h4 | h4
      · left; omega
      · right; rw [show (xo - 1).toInt.toNat - p.length - 1 = xo.toInt.toNat - (p.length + 1) - 1 by omega]; exact h4)
    refine ⟨X, O, yk', yv', ?_, by rw [e2, List.length_cons]; omega, by rw [e3, List.length_cons]; omega, e4, fun j hj => ?_⟩
    · rw [rd_pop (by omega) (by rw [xe, g2]; exact h3 a (List.mem_cons_self ..)), xe, g2, xn]
      exact e1
    · obtain ⟨q1, q2⟩ := e5 j hj
      rw [q1, q2, u32_n _ _ (by omega), up_n _ _ (by omega)]
      exact ⟨rfl, rfl⟩
/-! steps that leave one number more -/
def cseg (bk : Nat → Int32) : Nat → Nat → Nat → Option Nat
  | 0, _, p => some p
  | n + 1, k, p => if bk k = 2 ∨ bk k = 3 then (if p < 19 then cseg bk n (k + 1) (p + 1) else none) else if bk k = 6 then (if 1 ≤ p then cseg bk n (k + 1) p else none) else (if 2 ≤ p then cseg bk n (k + 1) (p - 1) else none)
theorem cseg_s (bk : Nat → Int32) (n k p : Nat) : cseg bk (n + 1) k p = (if bk k = 2 ∨ bk k = 3 then (if p < 19 then cseg bk n (k + 1) (p + 1) else none) else if bk k = 6 then (if 1 ≤ p then cseg bk n (k + 1) p else none) else (if 2 ≤ p then cseg bk n (k + 1) (p - 1) else none)) := rfl
theorem cs_app (bk : Nat → Int32) (b : Nat) : ∀ (a k p : Nat), cseg bk (a + b) k p = (cseg bk a k p).bind (fun q => cseg bk b (k + a) q) := by
  intro a
  induction a with
  | zero => intro k p; rw [Nat.zero_add, Nat.add_zero]; rfl
  | succ a ih =>
    intro k p
    rw [show a + 1 + b = (a + b) + 1 by omega, show k + (a + 1) = (k + 1) + a by omega]
    rw [cseg_s, cseg_s, ih, ih, ih]
    repeat' split
    all_goals rfl
theorem cs_c {bk bk' : Nat → Int32} : ∀ (n k p : Nat), (∀ j, k ≤ j → j < k + n → bk j = bk' j) → cseg bk n k p = cseg bk' n k p := by
  intro n
  induction n with
  | zero => intro k p _; rfl
  | succ n ih =>
    intro k p h
    unfold cseg
    rw [h k (Nat.le_refl _) (by omega), ih (k + 1) (p + 1) (fun j h1 h2 => h j (by omega) (by omega)), ih (k + 1) p (fun j h1 h2 => h j (by omega) (by omega)), ih (k + 1) (p - 1) (fun j h1 h2 => h j (by omega) (by omega))]
def VAL (bk : Nat → Int32) (s0 s1 m : Nat) : Prop := s0 ≤ s1 ∧ ∀ p, p + m ≤ 19 → cseg bk (s1 - s0) s0 p = some (p + 1)
theorem val_c {bk bk' : Nat → Int32} {s0 s1 m : Nat} (h : VAL bk s0 s1 m) (g : ∀ j, s0 ≤ j → j < s1 → bk' j = bk j) : VAL bk' s0 s1 m := by
  refine ⟨h.1, fun p hp => ?_⟩
  rw [← h.2 p hp]
  have := h.1
  exact cs_c _ _ _ (fun j h1 h2 => g j h1 (by omega))
theorem val_w {bk : Nat → Int32} {s0 s1 m m' : Nat} (h : VAL bk s0 s1 m) (g : m ≤ m') : VAL bk s0 s1 m' := ⟨h.1, fun p hp => h.2 p (by omega)⟩
theorem val_n {bk : Nat → Int32} {s m : Nat} (h : bk s = 2 ∨ bk s = 3) (hm : 1 ≤ m) : VAL bk s (s + 1) m := by
  refine ⟨by omega, fun p hp => ?_⟩
  rw [show s + 1 - s = 0 + 1 by omega]
  unfold cseg
  rw [if_pos h, if_pos (by omega)]
  rfl
theorem val_o {bk : Nat → Int32} {s0 s1 s2 m m' : Nat} (h1 : VAL bk s0 s1 m) (h2 : VAL bk s1 s2 m') (hm : m' + 1 ≤ m) (g : ¬ (bk s2 = 2 ∨ bk s2 = 3)) (g2 : ¬ bk s2 = 6) : VAL bk s0 (s2 + 1) m := by
  have a := h1.1
  have b := h2.1
  refine ⟨by omega, fun p hp => ?_⟩
  rw [show s2 + 1 - s0 = (s1 - s0) + ((s2 - s1) + 1) by omega, cs_app, h1.2 p hp]
  show cseg bk ((s2 - s1) + 1) (s0 + (s1 - s0)) (p + 1) = _
  rw [show s0 + (s1 - s0) = s1 by omega, cs_app, h2.2 (p + 1) (by omega)]
  show cseg bk (0 + 1) (s1 + (s2 - s1)) (p + 1 + 1) = _
  rw [show s1 + (s2 - s1) = s2 by omega]
  unfold cseg
  rw [if_neg g, if_neg g2, if_pos (by omega)]
  rfl
theorem val_m {bk : Nat → Int32} {s0 s1 m : Nat} (h1 : VAL bk s0 s1 m) (g : bk s1 = 6) : VAL bk s0 (s1 + 1) m := by
  have a := h1.1
  refine ⟨by omega, fun p hp => ?_⟩
  rw [show s1 + 1 - s0 = (s1 - s0) + (0 + 1) by omega, cs_app, h1.2 p hp]
  show cseg bk (0 + 1) (s0 + (s1 - s0)) (p + 1) = _
  rw [show s0 + (s1 - s0) = s1 by omega]
  unfold cseg
  rw [if_neg (by rw [g]; decide), if_pos g, if_pos (by omega)]
  rfl
/-! states -/
def GW (wk : Nat → Int32) (cu : Nat) : Prop := cu ≤ 120 ∧ ∀ j, j < cu → ¬ wk j = 0 ∧ ¬ wk j = 1
def PU (C : CT) (yk : Nat → Int32) (yv : Nat → Int64) : Prop := ∀ j, 240 ≤ j → yk j = C.2.2.2.2.2.2.2.2.2.2.2.2.2.2.2.1 j ∧ yv j = C.2.2.2.2.2.2.2.2.2.2.2.2.2.2.2.2.1 j
def PD (C : CT) (D : DT) : Prop := (∀ j, 12 ≤ j → D.2.2.1 j = C.2.2.2.2.2.2.2.2.1 j ∧ D.2.2.2.1 j = C.2.2.2.2.2.2.2.2.2.1 j) ∧ (∀ j, 13 ≤ j → D.2.2.2.2.1 j = C.2.2.2.2.2.2.2.2.2.2.1 j) ∧ ∀ j, 120 ≤ j → D.2.2.2.2.2.1 j = C.2.2.2.2.2.2.2.2.2.2.2.1 j ∧ D.2.2.2.2.2.2.1 j = C.2.2.2.2.2.2.2.2.2.2.2.2.1 j ∧ D.2.2.2.2.2.2.2.1 j = C.2.2.2.2.2.2.2.2.2.2.2.2.2.1 j ∧ D.2.2.2.2.2.2.2.2 j = C.2.2.2.2.2.2.2.2.2.2.2.2.2.2.1 j
def FLD (C : CT) (wp : Nat → Int32) (cu : Nat) (o : OT) : Prop := o.1 = (-1) - wp cu ∧ o.2.1 = 0 ∧ o.2.2.1 = C.1 ∧ o.2.2.2.2.2.2.2.2.2.2.2.1 = C.2.2.2.2.1 ∧ o.2.2.2.2.2.2.2.2.2.2.2.2.1 = C.2.2.2.2.2.1 ∧ o.2.2.2.2.2.2.2.2.2.2.2.2.2.2.1 = C.2.2.2.2.2.2.1 ∧ (∀ j, 12 ≤ j → o.2.2.2.2.2.2.2.2.2.2.2.2.2.2.2.1 j = C.2.2.2.2.2.2.2.2.1 j ∧ o.2.2.2.2.2.2.2.2.2.2.2.2.2.2.2.2.1 j = C.2.2.2.2.2.2.2.2.2.1 j) ∧ (∀ j, 13 ≤ j → o.2.2.2.2.2.2.2.2.2.2.2.2.2.2.2.2.2.1 j = C.2.2.2.2.2.2.2.2.2.2.1 j) ∧ (∀ j, 120 ≤ j → o.2.2.2.2.2.2.2.2.2.2.2.2.2.2.2.2.2.2.1 j = C.2.2.2.2.2.2.2.2.2.2.2.1 j ∧ o.2.2.2.2.2.2.2.2.2.2.2.2.2.2.2.2.2.2.2.1 j = C.2.2.2.2.2.2.2.2.2.2.2.2.1 j ∧ o.2.2.2.2.2.2.2.2.2.2.2.2.2.2.2.2.2.2.2.2.1 j = C.2.2.2.2.2.2.2.2.2.2.2.2.2.1 j ∧ o.2.2.2.2.2.2.2.2.2.2.2.2.2.2.2.2.2.2.2.2.2.1 j = C.2.2.2.2.2.2.2.2.2.2.2.2.2.2.1 j) ∧ ∀ j, 240 ≤ j → o.2.2.2.2.2.2.2.2.2.2.2.2.2.2.2.2.2.2.2.2.2.2.1 j = C.2.2.2.2.2.2.2.2.2.2.2.2.2.2.2.1 j ∧ o.2.2.2.2.2.2.2.2.2.2.2.2.2.2.2.2.2.2.2.2.2.2.2.1 j = C.2.2.2.2.2.2.2.2.2.2.2.2.2.2.2.2.1 j
theorem fa_fl {C : CT} {D : DT} {wp : Nat → Int32} {cu : Nat} {A K : Int32} {v : Int64} {w xd xo : Int32} {yk : Nat → Int32} {yv : Nat → Int64} {yo : Nat → Int32} (h : PD C D) (g : PU C yk yv) : FLD C wp cu (FA C D A K (wp cu) v w xd xo yk yv yo) := ⟨rfl, rfl, rfl, rfl, rfl, rfl, h.1, h.2.1, h.2.2, g⟩
def OPD (C : CT) (D : DT) (A wk : Nat → Int32) (ir : Int32) (cu : Nat) (dp be : Int32) (sc : Nat) (bk : Nat → Int32) (bw : Nat → Int64) (b : Nat) (Y : Nat → Int32) (o : OT) : Prop :=
  ∃ (n : Nat) (xk xp : Int32) (xv : Int64) (xd xo : Int32) (yk : Nat → Int32) (yv : Nat → Int64) (yo : Nat → Int32), o = LR C n 2 dp be ir (A cu) xk xp xv (nI cu) D xd xo yk yv yo ∧ n + cu = 121 ∧ xd.toInt = (sc : Int) ∧ xo.toInt = (b : Int) ∧ GW wk cu ∧ sc ≤ cu ∧ b ≤ cu ∧ EQP [] sc bk bw sc b yk yv yo ∧ (∀ j, j < b → yo j = Y j) ∧ PU C yk yv
def BHD (C : CT) (D : DT) (A wk : Nat → Int32) (ir : Int32) (cu : Nat) (dp : Int32) (p : List Int32) (sc : Nat) (bk : Nat → Int32) (bw : Nat → Int64) (b : Nat) (Y : Nat → Int32) (o : OT) : Prop :=
  ∃ (n x : Nat) (be xk xp : Int32) (xv : Int64) (xd xo : Int32) (yk : Nat → Int32) (yv : Nat → Int64) (yo : Nat → Int32), o = LR C n 3 dp be ir (A cu) xk xp xv (nI cu) D xd xo yk yv yo ∧ n + cu = 121 ∧ xd.toInt = (x : Int) ∧ xo.toInt = ((b + p.length : Nat) : Int) ∧ GW wk cu ∧ sc ≤ cu ∧ b + p.length ≤ cu ∧ EQP p sc bk bw x (b + p.length) yk yv yo ∧ (∀ j, j < b → yo j = Y j) ∧ PU C yk yv
theorem gw_s {tl : Int32} {mt A wk wp : Nat → Int32} {ww : Nat → Int64} {cu : Nat} (hT : TKN tl mt A wk wp ww) (h : GW wk cu) (h0 : ¬ wk cu = 0) (h1 : ¬ wk cu = 1) : GW wk (cu + 1) := by
  have l : cu < 120 := by
    rcases Nat.lt_or_eq_of_le h.1 with q | q
    · exact q
    · rw [q] at h0 h1
      rcases hT.2.1 with e | e | ⟨j, e1, e2⟩
      · exact absurd e h0
      · exact absurd e h1
      · have := h.2 j (by omega)
        rcases e2 with e | e
        · exact absurd e this.1
        · exact absurd e this.2
  refine ⟨by omega, fun j hj => ?_⟩
  rcases Nat.lt_or_eq_of_le (Nat.le_of_lt_succ hj) with q | q
  · exact h.2 j q
  · rw [q]; exact ⟨h0, h1⟩
theorem c120 : (120 : Int32).toInt = 120 := by decide
theorem c121 : (121 : Int32).toInt = 121 := by decide
theorem wd_k {c : Int32} {cu : Nat} {wk : Nat → Int32} (h : c.toInt = (cu : Int)) (g : cu ≤ 120) : f_Words_kind c wk = wk cu ∧ f_Words_place c wk = wk cu := by
  unfold f_Words_kind f_Words_place
  rw [if_neg (by rw [oi_lt, oi_z]; omega), if_neg (by rw [oi_le, c121]; omega), if_neg (by rw [oi_lt, oi_z]; omega), if_neg (by rw [oi_le, c121]; omega)]
  have : c.toNatClampNeg = cu := by show c.toInt.toNat = cu; omega
  rw [this]
  exact ⟨rfl, rfl⟩
theorem wd_w {c : Int32} {cu : Nat} {ww : Nat → Int64} (h : c.toInt = (cu : Int)) (g : cu ≤ 120) : f_Words_worth c ww = ww cu := by
  unfold f_Words_worth
  rw [if_neg (by rw [oi_lt, oi_z]; omega), if_neg (by rw [oi_le, c121]; omega)]
  have : c.toNatClampNeg = cu := by show c.toInt.toNat = cu; omega
  rw [this]
theorem wd_a {c : Int32} {cu : Nat} (h : c.toInt = (cu : Int)) (g : cu < 120) : f_Words_advance c = c + 1 ∧ (c + 1).toInt = ((cu + 1 : Nat) : Int) := by
  unfold f_Words_advance
  rw [if_neg (by rw [oi_le, c120]; omega)]
  have : (c + 1).toInt = (cu : Int) + 1 := oi_addE h oi_1 (by omega) (by omega)
  exact ⟨rfl, by rw [this]; omega⟩
theorem wd_p {tl : Int32} {mt A wk wp : Nat → Int32} {ww : Nat → Int64} {cu : Nat} {c kd : Int32} (hT : TKN tl mt A wk wp ww) (gw : GW wk cu) (h : c.toInt = (cu : Int)) (k0 : ¬ kd = 0) (k1 : ¬ kd = 1) : (wk cu = kd → f_Words_pass kd c wk = (1, c + 1) ∧ (c + 1).toInt = ((cu + 1 : Nat) : Int) ∧ GW wk (cu + 1)) ∧ (¬ wk cu = kd → f_Words_pass kd c wk = (0, c)) := by
  have e : c.toNatClampNeg = cu := by show c.toInt.toNat = cu; omega
  have gl := gw.1
  unfold f_Words_pass
  rw [if_neg (by rw [oi_lt, oi_z]; omega), e]
  constructor
  · intro q
    have g2 := gw_s hT gw (by rw [q]; exact k0) (by rw [q]; exact k1)
    have l := g2.1
    have : (c + 1).toInt = (cu : Int) + 1 := oi_addE h oi_1 (by omega) (by omega)
    rw [if_neg (by rw [oi_le, c120]; omega), if_neg (by rw [oi_le, c121]; omega), if_pos q]
    exact ⟨rfl, by rw [this]; omega, g2⟩
  · intro q
    rw [if_neg q]
    repeat' split
    all_goals rfl
theorem as_k {kd : Int32} {wo : Int64} {sci : Int32} {sc : Nat} {bk : Nat → Int32} {bw : Nat → Int64} (h : sci.toInt = (sc : Int)) (g : sc < 120) : f_Book_addStep kd wo sci bk bw = (sci + 1, upd bk sc kd, vp_updL bw sc wo) ∧ (sci + 1).toInt = ((sc + 1 : Nat) : Int) := by
  have e : sci.toNatClampNeg = sc := by show sci.toInt.toNat = sc; omega
  have : (sci + 1).toInt = (sc : Int) + 1 := oi_addE h oi_1 (by omega) (by omega)
  unfold f_Book_addStep
  rw [if_neg (by rw [oi_lt, oi_z]; omega), if_neg (by rw [oi_le, c120]; omega), if_neg (by rw [oi_le, c120]; omega), e]
  exact ⟨rfl, by rw [this]; omega⟩
/-- what reading a piece leaves on both sides -/
def RES (C : CT) (D : DT) (A wk wp : Nat → Int32) (ir : Int32) (cu sc : Nat) (bk : Nat → Int32) (bw : Nat → Int64) (dp : Int32) (b : Nat) (Y : Nat → Int32) (o : OT) (m : Nat) (Q : List Int32 → Prop) (N : Nat → Prop) (z : Int32 × Int32 × Int32 × (Nat → Int32) × (Nat → Int64)) : Prop :=
  (z.1 = 0 → ∃ cu2 : Nat, z.2.1.toInt = (cu2 : Int) ∧ GW wk cu2 ∧ FLD C wp cu2 o) ∧
  (¬ z.1 = 0 → ∃ (cu2 sc2 : Nat) (p : List Int32), z.2.1.toInt = (cu2 : Int) ∧ z.2.2.1.toInt = (sc2 : Int) ∧ cu < cu2 ∧ sc < sc2 ∧ sc2 + cu ≤ cu2 + sc ∧ (∀ j, j < sc → z.2.2.2.1 j = bk j ∧ z.2.2.2.2 j = bw j) ∧ VAL z.2.2.2.1 sc sc2 m ∧ Q p ∧ N cu2 ∧ BHD C D A wk ir cu2 dp p sc2 z.2.2.2.1 z.2.2.2.2 b Y o)
def NS (wk : Nat → Int32) (cu : Nat) : Prop := ¬ wk cu = 42 ∧ ¬ wk cu = 47 ∧ ¬ wk cu = 43 ∧ ¬ wk cu = 45
def QS (p : List Int32) : Prop := ∀ a ∈ p, ¬ f_Model_rank a < 1
abbrev SF : Type := Int32 → Int32 → (Nat → Int32) → (Nat → Int64) → Int32 → (Nat → Int32) → (Nat → Int64) → Int32 × Int32 × Int32 × (Nat → Int32) × (Nat → Int64)
def SIM (C : CT) (D : DT) (A wk wp : Nat → Int32) (ww : Nat → Int64) (ir : Int32) (rc : SF) (dp : Int32) : Prop := ∀ (c sci : Int32) (cu sc b : Nat) (bk : Nat → Int32) (bw : Nat → Int64) (Y : Nat → Int32) (o : OT), c.toInt = (cu : Int) → sci.toInt = (sc : Int) → OPD C D A wk ir cu dp 1 sc bk bw b Y o → (b = 0 ∨ f_Model_rank (Y (b - 1)) < 1) → RES C D A wk wp ir cu sc bk bw dp b Y o (3 + 2 * (8 - dp.toInt.toNat)) QS (NS wk) (rc dp c wk ww sci bk bw)
theorem n_1 {n cu : Nat} (h : n + cu = 121) (g : cu ≤ 120) : ∃ n', n = n' + 1 := ⟨n - 1, by omega⟩
theorem kr_f {a b : Int32} (h : KR a b) : (a = 2 ↔ b = 1) ∧ (a = 3 ↔ b = 2) ∧ (a = 40 ↔ b = 40) ∧ (a = 45 ↔ b = 45) ∧ (a = 41 ↔ b = 41) ∧ (a = 42 ↔ b = 42) ∧ (a = 47 ↔ b = 47) ∧ (a = 43 ↔ b = 43) ∧ (a = 0 ↔ b = 0) := ⟨kr_i h (by decide), kr_i h (by decide), kr_i h (by decide), kr_i h (by decide), kr_i h (by decide), kr_i h (by decide), kr_i h (by decide), kr_i h (by decide), kr_i h (by decide)⟩
/-- a number or a name -/
theorem fac_n {C : CT} {D : DT} {A wk wp : Nat → Int32} {ww : Nat → Int64} {ir dp be : Int32} (hT : TKN C.1 C.2.2.2.2.2.2.2.1 A wk wp ww) {c sci : Int32} {cu sc b : Nat} {bk : Nat → Int32} {bw : Nat → Int64} {Y : Nat → Int32} {o : OT} (hc : c.toInt = (cu : Int)) (hs : sci.toInt = (sc : Int)) (hO : OPD C D A wk ir cu dp be sc bk bw b Y o) {m : Nat} (hm : 1 ≤ m) (hk : wk cu = 2 ∨ wk cu = 3) :
    RES C D A wk wp ir cu sc bk bw dp b Y o m (fun p => p = []) (fun _ => True) (1, f_Words_advance c, (f_Book_addStep (wk cu) (ww cu) sci bk bw).1, (f_Book_addStep (wk cu) (ww cu) sci bk bw).2.1, (f_Book_addStep (wk cu) (ww cu) sci bk bw).2.2) := by
  obtain ⟨n, xk, xp, xv, xd, xo, yk, yv, yo, e, hn, hxd, hxo, gw, sl, bl_, eq, fr, pu⟩ := hO
  obtain ⟨K, v', A', w', nx, kr, vv, nxt⟩ := hT.2.2 cu gw.1 gw.2 xv
  obtain ⟨n', rfl⟩ := n_1 hn gw.1
  have k0 : ¬ wk cu = 0 := by rcases hk with q | q <;> rw [q] <;> decide
  have k1 : ¬ wk cu = 1 := by rcases hk with q | q <;> rw [q] <;> decide
  have g2 := gw_s hT gw k0 k1
  have l := g2.1
  obtain ⟨a1, a2⟩ := wd_a hc (by omega)
  obtain ⟨s1, s2⟩ := as_k (kd := wk cu) (wo := ww cu) (bk := bk) (bw := bw) hs (by omega)
  obtain ⟨w1, w2⟩ := nxt k0
  obtain ⟨f1, f2, -⟩ := kr_f kr
  have hK : K = 1 ∨ K = 2 := by
    rcases hk with q | q
    · exact Or.inl (f1.mp q)
    · exact Or.inr (f2.mp q)
  rw [s_num nx hK] at e
  have xn : xd.toNatClampNeg = sc := by show xd.toInt.toNat = sc; omega
  have x1 : (xd + 1).toInt = (sc : Int) + 1 := oi_addE hxd oi_1 (by omega) (by omega)
  rw [xn, w1, w2, vv hk] at e
  rw [a1, s1]
  refine ⟨fun q => absurd q (show ¬ (1 : Int32) = 0 by decide), fun _ => ⟨cu + 1, sc + 1, [], a2, s2, by omega, by omega, by omega, fun j hj => ?_, ?_, rfl, trivial, ?_⟩⟩
  · show upd bk sc (wk cu) j = bk j ∧ vp_updL bw sc (ww cu) j = bw j
    rw [u32_n _ _ (by omega), up_n _ _ (by omega)]
    exact ⟨rfl, rfl⟩
  · refine val_n ?_ hm
    show upd bk sc (wk cu) sc = 2 ∨ upd bk sc (wk cu) sc = 3
    rw [u32_s]
    exact hk
  · refine ⟨n', sc + 1, be, K, wp cu, ww cu, xd + 1, xo, _, _, yo, e, by omega, by rw [x1]; omega, by rw [hxo]; rfl, g2, by omega, by show b + 0 ≤ cu + 1; omega, ⟨rfl, fun k hk' => ?_⟩, fr, fun j hj => ?_⟩
    · show SK (upd bk sc (wk cu) k) (upd yk sc K k) ∧ vp_updL bw sc (ww cu) k = vp_updL yv sc (ww cu) k
      by_cases q : k = sc
      · rw [q, u32_s, u32_s, up_s, up_s]
        refine ⟨?_, rfl⟩
        rcases hk with g | g
        · exact Or.inl ⟨g, f1.mp g⟩
        · exact Or.inr (Or.inl ⟨g, f2.mp g⟩)
      · rw [u32_n _ _ q, u32_n _ _ q, up_n _ _ q, up_n _ _ q]
        exact eq.2 k (by omega)
    · rw [u32_n _ _ (by omega), up_n _ _ (by omega)]
      exact pu j hj
theorem val_p {bk : Nat → Int32} {s0 s1 m : Nat} (h : VAL bk s0 s1 m) : s0 ≤ s1 := h.1
/-- where the word fits nowhere: an operand -/
theorem opd_f {C : CT} {D : DT} {A wk wp : Nat → Int32} {ww : Nat → Int64} {ir dp be : Int32} (hT : TKN C.1 C.2.2.2.2.2.2.2.1 A wk wp ww) (hP : PD C D) {cu sc b : Nat} {bk : Nat → Int32} {bw : Nat → Int64} {Y : Nat → Int32} {o : OT} (hO : OPD C D A wk ir cu dp be sc bk bw b Y o) (hm : ¬ (wk cu = 45 ∧ ¬ be = 0)) (h2 : ¬ wk cu = 2) (h3 : ¬ wk cu = 3) (h4 : ¬ (wk cu = 40 ∧ ¬ 8 ≤ dp)) : GW wk cu ∧ FLD C wp cu o := by
  obtain ⟨n, xk, xp, xv, xd, xo, yk, yv, yo, e, hn, hxd, hxo, gw, sl, bl_, eq, fr, pu⟩ := hO
  obtain ⟨K, v', A', w', nx, kr, vv, nxt⟩ := hT.2.2 cu gw.1 gw.2 xv
  obtain ⟨n', rfl⟩ := n_1 hn gw.1
  obtain ⟨f1, f2, f3, f4, -⟩ := kr_f kr
  rw [s_bad nx (fun q => hm ⟨f4.mpr q.1, q.2⟩) (fun q => h2 (f1.mpr q)) (fun q => h3 (f2.mpr q)) (fun q => h4 ⟨f3.mpr q.1, q.2⟩)] at e
  rw [e]
  exact ⟨gw, fa_fl hP pu⟩
