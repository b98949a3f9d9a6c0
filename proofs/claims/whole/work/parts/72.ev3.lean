/-! a clause and a rule are asked alike -/
def HO (kp : Int32) (j1 j2 j3 j4 : Int64) (h : Int32 × Int64 × Int64 × Int64 × Int64 × Int32 × Int32 × Int64 × (Nat → Int64) × (Nat → Int64)) (m : Int32 × Int32 × Int32 × Int64 × Int64 × Int64 × Int64 × Int64 × (Nat → Int64) × (Nat → Int64)) : Prop :=
  h.2.2.2.2.2.2.1 = m.2.2.1 ∧ 0 ≤ m.2.2.1.toInt ∧ h.2.2.2.2.2.2.2.1 = m.2.2.2.1 ∧ (m.2.2.1 = 0 → h.1 = m.1) ∧ (¬ m.2.2.1 = 0 → m.1 = 0) ∧ (h.2.1, h.2.2.1, h.2.2.2.1, h.2.2.2.2.1) = (if kp = 0 then (j1, j2, j3, j4) else (m.2.2.2.2.1, m.2.2.2.2.2.1, m.2.2.2.2.2.2.1, m.2.2.2.2.2.2.2.1))
theorem ho_p {w : Int32} (h : w = 0 ∨ w = 2) : 0 ≤ w.toInt := by rcases h with h | h <;> rw [h] <;> decide
set_option maxHeartbeats 2000000 in
theorem ho_eq {bs bl br bk : Nat → Int32} {bw : Nat → Int64} {fz : Int32} {fn : Nat → Int64} {fv : Nat → Int32} {sg lf rf ce sk : Nat → Int32} {sv gn gv : Nat → Int64} {fc c c' kp : Int32} {mi j1 j2 j3 j4 : Int64} {ru rl up dn : Nat → Int64} {N : Int} (hf : FR fz fn fv fc gn gv) (h0 : 0 ≤ c.toInt) (hc : c'.toInt = c.toInt + 120) (cb : CB bs bl br sg lf rf ce sk c.toInt.toNat) (hN : (br c.toInt.toNat).toInt ≤ N) (hs : ∀ k : Nat, (k : Int) < N → SK (bk k) (sk (240 + k)) ∧ bw k = sv (240 + k)) :
    HO kp j1 j2 j3 j4 (f_Judge_holds c kp j1 j2 j3 j4 0 mi ru rl bs bl br bk bw fz fn fv) (f_Model_holds c' fc 0 mi sg lf rf ce sk sv gn gv up dn) := by
  obtain ⟨c30, sgn, l1, l2, l3, b0, b1, b2, b3, pf1, pf2⟩ := cb
  have cc : c'.toNatClampNeg = 120 + c.toInt.toNat := by
    show c'.toInt.toNat = _
    omega
  have h1 : c.toInt < 30 := by omega
  have bf := bo_fs (f := br) h0 h1
  rw [← cc] at l1 l2 l3 sgn
  have E := rs_eq (bk := bk) (bw := bw) (fr := f_Book_firstStepOf c br) (bh := bl c.toInt.toNat) (fr' := lf c'.toNatClampNeg) (tq := rf c'.toNatClampNeg) (mi := mi) (ru := ru) (rl := rl) (up := up) (dn := dn) (sk := sk) (sv := sv) hf (by rw [bf]; exact b0) (by rw [bf]; exact l1) l2 (by omega) (fun k hk => hs k (by omega)) (by rw [bf]; exact pf1)
  unfold f_Judge_holds f_Model_holds
  simp only [lt_]
  rw [(bo_st (f := bl) h0 h1).1, (bo_st (f := br) h0 h1).2.1, (bo_st (f := bs) h0 h1).2.2]
  generalize f_Reckoner_reckonSide (f_Book_firstStepOf c br) (bl c.toInt.toNat) 0 mi ru rl bk bw fz fn fv = x at E ⊢
  generalize f_Model_reckon (lf c'.toNatClampNeg) (rf c'.toNatClampNeg) fc 0 mi sk sv gn gv up dn = y at E ⊢
  have w1 : x.2.1 = y.2.1 := E.1.1
  have m1 : x.2.2.1 = y.2.2.1 := E.1.2.2.1
  have n1 := E.1.2.1
  by_cases hx : x.2.1 = 0
  · have hy : y.2.1 = 0 := w1.symm.trans hx
    obtain ⟨v1, v2⟩ := ur_1 E hx
    have E2 := rs_eq (bk := bk) (bw := bw) (fr := bl c.toInt.toNat) (bh := br c.toInt.toNat) (fr' := rf c'.toNatClampNeg) (tq := ce c'.toNatClampNeg) (mi := y.2.2.1) (ru := x.2.2.2.1) (rl := x.2.2.2.2) (up := y.2.2.2.1) (dn := y.2.2.2.2) (sk := sk) (sv := sv) hf (by omega) l2 l3 (by omega) (fun k hk => hs k (by omega)) pf2
    rw [if_pos hx, v1, v2, hx, hy, m1, if_pos (show (0 : Int32) ≤ 0 by decide)]
    generalize f_Reckoner_reckonSide (bl c.toInt.toNat) (br c.toInt.toNat) 0 y.2.2.1 x.2.2.2.1 x.2.2.2.2 bk bw fz fn fv = x2 at E2 ⊢
    generalize f_Model_reckon (rf c'.toNatClampNeg) (ce c'.toNatClampNeg) fc 0 y.2.2.1 sk sv gn gv y.2.2.2.1 y.2.2.2.2 = y2 at E2 ⊢
    have w2 : x2.2.1 = y2.2.1 := E2.1.1
    have m2 : x2.2.2.1 = y2.2.2.1 := E2.1.2.2.1
    have n2 := E2.1.2.1
    by_cases hx2 : x2.2.1 = 0
    · have hy2 : y2.2.1 = 0 := w2.symm.trans hx2
      obtain ⟨v3, v4⟩ := ur_1 E2 hx2
      rw [if_pos hx2, if_pos hx2, v3, v4, hx2, hy2, if_pos (show (0 : Int32) ≤ 0 by decide)]
      generalize y.2.2.2.1 (0 : Int32).toNatClampNeg = a
      generalize y.2.2.2.2 (0 : Int32).toNatClampNeg = b
      generalize y2.2.2.2.1 (0 : Int32).toNatClampNeg = c1
      generalize y2.2.2.2.2 (0 : Int32).toNatClampNeg = d
      have t1 := tm_2 a d (w := 0) (Or.inl rfl)
      rw [pr_tm a d (Or.inl rfl), pr_tm c1 b t1]
      have t2 := tm_2 c1 b t1
      generalize f_Model_times c1 b (f_Model_times a d 0).2 = T at t2 ⊢
      generalize (f_Model_times a d 0).1 = L
      rw [cmp_q sgn]
      have t3 := ho_p t2
      by_cases hT : T.2 = 0
      · rw [if_pos hT]
        by_cases hk : kp = 0
        · rw [if_pos hk]
          repeat' split
          all_goals exact ⟨rfl, t3, m2, fun _ => rfl, fun q => absurd hT q, (if_pos hk).symm⟩
        · rw [if_neg hk]
          repeat' split
          all_goals exact ⟨rfl, t3, m2, fun _ => rfl, fun q => absurd hT q, (if_neg hk).symm⟩
      · rw [if_neg hT]
        by_cases hk : kp = 0
        · rw [if_pos hk]
          exact ⟨rfl, t3, m2, fun q => absurd q hT, fun _ => rfl, (if_pos hk).symm⟩
        · rw [if_neg hk]
          exact ⟨rfl, t3, m2, fun q => absurd q hT, fun _ => rfl, (if_neg hk).symm⟩
    · have hy2 : ¬ y2.2.1 = 0 := fun e => hx2 (w2.trans e)
      rw [if_neg hx2, if_neg hx2, (ur_0 hx2).1, (ur_0 hx2).2, if_neg (show ¬ y2.2.1 ≤ 0 from fun e => hy2 (i32_ext (by rw [oi_le, oi_z] at e; rw [w2] at n2; rw [oi_z]; omega)))]
      by_cases hk : kp = 0
      · rw [if_pos hk]
        exact ⟨w2, by rw [← w2]; exact n2, m2, fun q => absurd q hy2, fun _ => rfl, (if_pos hk).symm⟩
      · rw [if_neg hk]
        exact ⟨w2, by rw [← w2]; exact n2, m2, fun q => absurd q hy2, fun _ => rfl, (if_neg hk).symm⟩
  · have hy : ¬ y.2.1 = 0 := fun e => hx (w1.trans e)
    rw [if_neg hx, if_neg hx, if_neg hx, (ur_0 hx).1, (ur_0 hx).2, if_neg (show ¬ y.2.1 ≤ 0 from fun e => hy (i32_ext (by rw [oi_le, oi_z] at e; rw [w1] at n1; rw [oi_z]; omega)))]
    by_cases hk : kp = 0
    · rw [if_pos hk]
      exact ⟨w1, by rw [← w1]; exact n1, m1, fun q => absurd q hy, fun _ => rfl, (if_pos hk).symm⟩
    · rw [if_neg hk]
      exact ⟨w1, by rw [← w1]; exact n1, m1, fun q => absurd q hy, fun _ => rfl, (if_neg hk).symm⟩
/-- what a rule's asking leaves, on both sides -/
def AO (j1 j2 j3 j4 : Int64) (xr : Nat → Int64) (a : Int32 × Int64 × Int64 × Int64 × Int64 × Int32 × Int32 × Int64 × (Nat → Int64) × (Nat → Int64)) (s : Int32 × Int32 × Int32 × Int64 × Int64 × Int64 × Int64 × Int64 × (Nat → Int64) × (Nat → Int64) × (Nat → Int64)) : Prop :=
  a.1 = s.1 ∧ a.2.1 = j1 ∧ a.2.2.1 = j2 ∧ a.2.2.2.1 = j3 ∧ a.2.2.2.2.1 = j4 ∧ a.2.2.2.2.2.2.1 = s.2.2.1 ∧ a.2.2.2.2.2.2.2.1 = s.2.2.2.1 ∧ s.2.2.2.2.2.2.2.2.2.2 = xr
theorem w_le {w : Int32} (h0 : 0 ≤ w.toInt) (h : ¬ w = 0) : ¬ w ≤ 0 := fun e => h (i32_ext (by rw [oi_le, oi_z] at e; rw [oi_z]; omega))
set_option maxHeartbeats 2000000 in
theorem al_eq {bd : Nat → Int64} {bc bs bl br bk : Nat → Int32} {bw : Nat → Int64} {fz : Int32} {fn : Nat → Int64} {fv : Nat → Int32} {dd : Nat → Int64} {fi sg lf rf ce sk : Nat → Int32} {sv gn gv : Nat → Int64} {fc : Int32} {N : Int} (hf : FR fz fn fv fc gn gv) (hs : ∀ k : Nat, (k : Int) < N → SK (bk k) (sk (240 + k)) ∧ bw k = sv (240 + k)) (nu dy pe : Int32) (ru rl : Nat → Int64) (rn od kp pi : Int32) (up dn re : Nat → Int64) (bh en : Int32) (he : en.toInt = bh.toInt + 120) (hb : bh.toInt ≤ 30) (cb : ∀ c : Nat, (c : Int) < bh.toInt → CB bs bl br sg lf rf ce sk c ∧ (br c).toInt ≤ N) (x1 x2 x3 x4 : Int64) (xr : Nat → Int64) :
    ∀ (n : Nat) (i e mo xs al xe xy : Int32) (xi : Int64) (xu xl : Nat → Int64) (xp : Int32) (y1 y2 y3 y4 : Int64) (xu' xd' : Nat → Int64), (bh.toInt - i.toInt).toNat = n → 0 ≤ i.toInt → e.toInt = i.toInt + 120 → 0 ≤ xy.toInt → (xy = 0 → ((mo = 0 ∧ al = 0 ∧ xs = 1) ∨ (¬ mo = 0 ∧ ¬ al = 0 ∧ (xs = 2 ∨ i.toInt < bh.toInt)))) →
      AO x1 x2 x3 x4 xr (f_Judge_ask_L101 nu dy pe ru rl bd bc bs bl br bk bw fz fn fv (n + 1) i bh mo xs x1 x2 x3 x4 xe xy xi xu xl) (f_Model_stateOf_L134 rn od kp fc pi dd fi sg lf rf ce sk sv gn gv up dn re (n + 1) e en al xp xy xi y1 y2 y3 y4 xu' xd' xr) := by
  intro n
  induction n with
  | zero =>
    intro i e mo xs al xe xy xi xu xl xp y1 y2 y3 y4 xu' xd' hn h0 hi hw hv
    rw [f_Judge_ask_L101_s, f_Model_stateOf_L134_s, if_pos (show bh ≤ i by rw [oi_le]; omega), if_pos (show en ≤ e by rw [oi_le]; omega)]
    by_cases hy : xy = 0
    · rw [if_pos hy, if_pos (show xy ≤ 0 by rw [hy]; decide)]
      rcases hv hy with ⟨a, b, c⟩ | ⟨a, b, c⟩
      · rw [if_pos b]
        exact ⟨c, rfl, rfl, rfl, rfl, rfl, rfl, rfl⟩
      · rw [if_neg b]
        exact ⟨by rcases c with c | c; exact c; omega, rfl, rfl, rfl, rfl, rfl, rfl, rfl⟩
    · rw [if_neg hy, if_neg (w_le hw hy)]
      exact ⟨rfl, rfl, rfl, rfl, rfl, rfl, rfl, rfl⟩
  | succ n ih =>
    intro i e mo xs al xe xy xi xu xl xp y1 y2 y3 y4 xu' xd' hn h0 hi hw hv
    rw [f_Judge_ask_L101_s, f_Model_stateOf_L134_s, if_neg (show ¬ bh ≤ i by rw [oi_le]; omega), if_neg (show ¬ en ≤ e by rw [oi_le]; omega)]
    by_cases hy : xy = 0
    · rcases hv hy with ⟨a, b, c⟩ | ⟨a, b, c⟩
      · rw [if_pos a, if_pos b, if_pos hy, if_pos (show xy ≤ 0 by rw [hy]; decide), if_pos b]
        exact ⟨c, rfl, rfl, rfl, rfl, rfl, rfl, rfl⟩
      · rw [if_neg a, if_neg b, if_pos hy, if_pos hy, hy]
        have q := cb i.toInt.toNat (by omega)
        have H := ho_eq (c := i) (c' := e) (kp := 0) (mi := xi) (j1 := x1) (j2 := x2) (j3 := x3) (j4 := x4) (ru := xu) (rl := xl) (up := xu') (dn := xd') (bk := bk) (bw := bw) hf h0 hi q.1 q.2 hs
        simp only [lt_]
        generalize f_Judge_holds i 0 x1 x2 x3 x4 0 xi xu xl bs bl br bk bw fz fn fv = z at H ⊢
        generalize f_Model_holds e fc 0 xi sg lf rf ce sk sv gn gv xu' xd' = t at H ⊢
        obtain ⟨a1, a2, a3, a4, a5, a6⟩ := H
        rw [if_pos rfl] at a6
        have a7 := Prod.mk.inj a6
        have a8 := Prod.mk.inj a7.2
        have a9 := Prod.mk.inj a8.2
        have i1 : (i + 1).toInt = i.toInt + 1 := oi_addE rfl oi_1 (by omega) (by omega)
        have e1 : (e + 1).toInt = e.toInt + 1 := oi_addE rfl oi_1 (by omega) (by omega)
        rw [a7.1, a8.1, a9.1, a9.2, a1, a3]
        by_cases hz : z.1 = 0
        · rw [if_pos hz]
          exact ih (i + 1) (e + 1) z.1 1 t.1 _ _ _ _ _ _ _ _ _ _ _ _ (by omega) (by omega) (by omega) a2 (fun q => Or.inl ⟨hz, by rw [← a4 q]; exact hz, rfl⟩)
        · rw [if_neg hz]
          exact ih (i + 1) (e + 1) z.1 2 t.1 _ _ _ _ _ _ _ _ _ _ _ _ (by omega) (by omega) (by omega) a2 (fun q => Or.inr ⟨hz, by rw [← a4 q]; exact hz, Or.inl rfl⟩)
    · simp only [if_neg hy, if_neg (w_le hw hy)]
      repeat' split
      all_goals exact ⟨rfl, rfl, rfl, rfl, rfl, rfl, rfl, rfl⟩
def C0 (bc : Nat → Int32) (q : Nat) : Int := if q = 0 then 0 else (bc (q - 1)).toInt
theorem bo_c {q : Int32} {f : Nat → Int32} (h0 : 0 ≤ q.toInt) (h1 : q.toInt < 12) : f_Book_clauseBehind q f = f q.toInt.toNat ∧ (f_Book_firstClauseOf q f).toInt = C0 f q.toInt.toNat := by
  have key : ∀ q : Int32, 0 ≤ q.toInt → q.toInt < 12 → f_Book_clauseBehind q f = f q.toInt.toNat := by
    intro q h0 h1
    unfold f_Book_clauseBehind
    rw [if_neg (by rw [oi_lt, oi_z]; omega), if_neg (by rw [oi_le, show (12 : Int32).toInt = 12 by decide]; omega)]
    rfl
  have s1 : (q - 1).toInt = q.toInt - 1 := oi_subE rfl oi_1 (by omega) (by omega)
  refine ⟨key q h0 h1, ?_⟩
  unfold f_Book_firstClauseOf C0
  simp only [lt_]
  by_cases h : q.toInt = 0
  · rw [if_pos (by omega)]
    unfold f_Book_clauseBehind
    rw [if_pos (by rw [oi_lt, oi_z]; omega)]
    rfl
  · rw [if_neg (by omega), key (q - 1) (by omega) (by omega), show (q - 1).toInt.toNat = q.toInt.toNat - 1 by omega]
/-- the published rules are alike -/
def RB (rc cc : Int32) (bn bd : Nat → Int64) (bc bs bl br bk : Nat → Int32) (bw : Nat → Int64) (ru cl : Int32) (nn dd : Nat → Int64) (fi sg lf rf ce sk : Nat → Int32) (sv : Nat → Int64) : Prop :=
  rc = ru ∧ cc = cl ∧ 0 ≤ rc.toInt ∧ rc.toInt ≤ 12 ∧ 0 ≤ cc.toInt ∧ cc.toInt ≤ 30 ∧
  (∀ q : Nat, (q : Int) < rc.toInt → bn q = nn (12 + q) ∧ bd q = dd (12 + q) ∧ (fi (13 + q)).toInt = C0 bc q + 120 ∧ (fi (14 + q)).toInt = (bc q).toInt + 120 ∧ 0 ≤ C0 bc q ∧ C0 bc q < (bc q).toInt ∧ (bc q).toInt ≤ cc.toInt) ∧
  (∀ p q : Nat, (p : Int) < rc.toInt → (q : Int) < rc.toInt → bn p = bn q → p = q) ∧
  ∃ N : Int, (∀ k : Nat, (k : Int) < N → SK (bk k) (sk (240 + k)) ∧ bw k = sv (240 + k)) ∧ ∀ c : Nat, (c : Int) < cc.toInt → CB bs bl br sg lf rf ce sk c ∧ (br c).toInt ≤ N
set_option maxHeartbeats 2000000 in
theorem as_eq {rc cc : Int32} {bn bd : Nat → Int64} {bc bs bl br bk : Nat → Int32} {bw : Nat → Int64} {rx cl : Int32} {nn dd : Nat → Int64} {fi sg lf rf ce sk : Nat → Int32} {sv : Nat → Int64} {fz : Int32} {fn : Nat → Int64} {fv : Nat → Int32} {gn gv : Nat → Int64} {fc : Int32} (hb : RB rc cc bn bd bc bs bl br bk bw rx cl nn dd fi sg lf rf ce sk sv) (hf : FR fz fn fv fc gn gv) {q dy pe pi kp : Int32} {ru rl up dn re : Nat → Int64} (h0 : 0 ≤ q.toInt) (h1 : q.toInt < rc.toInt) (hk : kp = 0 ∨ kp = 1) :
    ∃ j1 j2 j3 j4 : Int64, AO j1 j2 j3 j4 (if kp = 0 then re else f_Model_keep q j1 j2 j3 j4 re) (f_Judge_ask q dy pe ru rl bd bc bs bl br bk bw fz fn fv) (f_Model_stateOf q dy kp fc pi dd fi sg lf rf ce sk sv gn gv up dn re) := by
  obtain ⟨-, -, r0, r12, -, c30, hr, -, N, hs, hc⟩ := hb
  obtain ⟨-, a2, a3, a4, a5, a6, a7⟩ := hr q.toInt.toNat (by omega)
  have t12 : (12 + q).toNatClampNeg = 12 + q.toInt.toNat := by
    have : (12 + q).toInt = 12 + q.toInt := oi_addE (by decide) rfl (by omega) (by omega)
    show (12 + q).toInt.toNat = _
    omega
  have t13 : (13 + q).toNatClampNeg = 13 + q.toInt.toNat := by
    have : (13 + q).toInt = 13 + q.toInt := oi_addE (by decide) rfl (by omega) (by omega)
    show (13 + q).toInt.toNat = _
    omega
  have t14 : (14 + q).toNatClampNeg = 14 + q.toInt.toNat := by
    have : (14 + q).toInt = 14 + q.toInt := oi_addE (by decide) rfl (by omega) (by omega)
    show (14 + q).toInt.toNat = _
    omega
  have day : f_Book_dayOf q bd = dd (12 + q.toInt.toNat) := by
    unfold f_Book_dayOf
    rw [if_neg (by rw [oi_lt, oi_z]; omega), if_neg (by rw [oi_le, show (12 : Int32).toInt = 12 by decide]; omega)]
    exact a2
  obtain ⟨k1, k2⟩ := bo_c (f := bc) h0 (by omega)
  unfold f_Judge_ask f_Model_stateOf f_Reckoner_restart
  simp only [lt_]
  rw [day, k1, t12, t13, t14]
  generalize f_Book_firstClauseOf q bc = z4 at k2 ⊢
  generalize bc q.toInt.toNat = z5 at *
  generalize fi (13 + q.toInt.toNat) = m4 at *
  generalize fi (14 + q.toInt.toNat) = m5 at *
  by_cases hd : lg_cmp dy.toInt64 (dd (12 + q.toInt.toNat)) < 0
  · rw [if_pos hd, if_neg (show ¬ (0 : Int32) ≤ lg_cmp dy.toInt64 (dd (12 + q.toInt.toNat)) by rw [oi_le]; rw [oi_lt] at hd; rw [oi_z] at hd ⊢; omega)]
    refine ⟨0, 0, 0, 0, ?_⟩
    by_cases hp : kp = 0
    · rw [if_pos hp, if_pos hp]
      exact ⟨rfl, rfl, rfl, rfl, rfl, rfl, rfl, rfl⟩
    · rw [if_neg hp, if_neg hp]
      exact ⟨rfl, rfl, rfl, rfl, rfl, rfl, rfl, rfl⟩
  · rw [if_neg hd, if_pos (show (0 : Int32) ≤ lg_cmp dy.toInt64 (dd (12 + q.toInt.toNat)) by rw [oi_le]; rw [oi_lt] at hd; rw [oi_z] at hd ⊢; omega)]
    have cq := hc z4.toInt.toNat (by omega)
    have H := ho_eq (c := z4) (c' := m4) (kp := 1) (mi := 0) (j1 := 0) (j2 := 0) (j3 := 0) (j4 := 0) (ru := ru) (rl := rl) (up := up) (dn := dn) (bk := bk) (bw := bw) hf (by omega) (by omega) cq.1 cq.2 hs
    generalize f_Judge_holds z4 1 0 0 0 0 0 0 ru rl bs bl br bk bw fz fn fv = z at H ⊢
    generalize f_Model_holds m4 fc 0 0 sg lf rf ce sk sv gn gv up dn = t at H ⊢
    obtain ⟨b1, b2, b3, b4, b5, b6⟩ := H
    rw [if_neg (by decide)] at b6
    have b7 := Prod.mk.inj b6
    have b8 := Prod.mk.inj b7.2
    have b9 := Prod.mk.inj b8.2
    rw [b7.1, b8.1, b9.1, b9.2, b1, b3]
    refine ⟨t.2.2.2.2.1, t.2.2.2.2.2.1, t.2.2.2.2.2.2.1, t.2.2.2.2.2.2.2.1, ?_⟩
    generalize hX : (if kp = 0 then re else f_Model_keep q t.2.2.2.2.1 t.2.2.2.2.2.1 t.2.2.2.2.2.2.1 t.2.2.2.2.2.2.2.1 re) = X
    have i1 : (z4 + 1).toInt = z4.toInt + 1 := oi_addE rfl oi_1 (by omega) (by omega)
    have e1 : (m4 + 1).toInt = m4.toInt + 1 := oi_addE rfl oi_1 (by omega) (by omega)
    have fu : (m5.toInt - (m4 + 1).toInt).toNat = (z5.toInt - (z4 + 1).toInt).toNat := by omega
    rw [fu]
    have L := fun (mo xs al : Int32) (hv : t.2.2.1 = 0 → ((mo = 0 ∧ al = 0 ∧ xs = 1) ∨ (¬ mo = 0 ∧ ¬ al = 0 ∧ (xs = 2 ∨ (z4 + 1).toInt < z5.toInt)))) => al_eq (bd := bd) (bc := bc) (dd := dd) (fi := fi) (bk := bk) (bw := bw) hf hs q dy pe ru rl q dy kp pi up dn re z5 m5 (by omega) (by omega) (fun c hc' => hc c (by omega)) t.2.2.2.2.1 t.2.2.2.2.2.1 t.2.2.2.2.2.2.1 t.2.2.2.2.2.2.2.1 X ((z5.toInt - (z4 + 1).toInt).toNat) (z4 + 1) (m4 + 1) mo xs al z.2.2.2.2.2.1 t.2.2.1 t.2.2.2.1 z.2.2.2.2.2.2.2.2.1 z.2.2.2.2.2.2.2.2.2 t.2.1 t.2.2.2.2.1 t.2.2.2.2.2.1 t.2.2.2.2.2.2.1 t.2.2.2.2.2.2.2.1 t.2.2.2.2.2.2.2.2.1 t.2.2.2.2.2.2.2.2.2 rfl (by omega) (by omega) b2 hv
    have fin : AO t.2.2.2.2.1 t.2.2.2.2.2.1 t.2.2.2.2.2.2.1 t.2.2.2.2.2.2.2.1 X (if z.1 = 0 then f_Judge_ask_L101 q dy pe ru rl bd bc bs bl br bk bw fz fn fv ((z5.toInt - (z4 + 1).toInt).toNat + 1) (z4 + 1) z5 1 1 t.2.2.2.2.1 t.2.2.2.2.2.1 t.2.2.2.2.2.2.1 t.2.2.2.2.2.2.2.1 z.2.2.2.2.2.1 t.2.2.1 t.2.2.2.1 z.2.2.2.2.2.2.2.2.1 z.2.2.2.2.2.2.2.2.2 else f_Judge_ask_L101 q dy pe ru rl bd bc bs bl br bk bw fz fn fv ((z5.toInt - (z4 + 1).toInt).toNat + 1) (z4 + 1) z5 0 0 t.2.2.2.2.1 t.2.2.2.2.2.1 t.2.2.2.2.2.2.1 t.2.2.2.2.2.2.2.1 z.2.2.2.2.2.1 t.2.2.1 t.2.2.2.1 z.2.2.2.2.2.2.2.2.1 z.2.2.2.2.2.2.2.2.2) (if t.1 = 0 then (if t.2.2.1 ≤ 0 then (if m5 ≤ m4 + 1 then f_Model_stateOf_L134 q dy kp fc pi dd fi sg lf rf ce sk sv gn gv up dn re ((z5.toInt - (z4 + 1).toInt).toNat + 1) (m4 + 1) m5 0 t.2.1 t.2.2.1 t.2.2.2.1 t.2.2.2.2.1 t.2.2.2.2.2.1 t.2.2.2.2.2.2.1 t.2.2.2.2.2.2.2.1 t.2.2.2.2.2.2.2.2.1 t.2.2.2.2.2.2.2.2.2 X else f_Model_stateOf_L134 q dy kp fc pi dd fi sg lf rf ce sk sv gn gv up dn re ((z5.toInt - (z4 + 1).toInt).toNat + 1) (m4 + 1) m5 1 t.2.1 t.2.2.1 t.2.2.2.1 t.2.2.2.2.1 t.2.2.2.2.2.1 t.2.2.2.2.2.2.1 t.2.2.2.2.2.2.2.1 t.2.2.2.2.2.2.2.2.1 t.2.2.2.2.2.2.2.2.2 X) else (if t.2.2.1 ≤ 0 then ((0 : Int32), t.2.1, t.2.2.1, t.2.2.2.1, t.2.2.2.2.1, t.2.2.2.2.2.1, t.2.2.2.2.2.2.1, t.2.2.2.2.2.2.2.1, t.2.2.2.2.2.2.2.2.1, t.2.2.2.2.2.2.2.2.2, X) else (3, t.2.1, t.2.2.1, t.2.2.2.1, t.2.2.2.2.1, t.2.2.2.2.2.1, t.2.2.2.2.2.2.1, t.2.2.2.2.2.2.2.1, t.2.2.2.2.2.2.2.2.1, t.2.2.2.2.2.2.2.2.2, X))) else (if t.2.2.1 ≤ 0 then ((0 : Int32), t.2.1, t.2.2.1, t.2.2.2.1, t.2.2.2.2.1, t.2.2.2.2.2.1, t.2.2.2.2.2.2.1, t.2.2.2.2.2.2.2.1, t.2.2.2.2.2.2.2.2.1, t.2.2.2.2.2.2.2.2.2, X) else (3, t.2.1, t.2.2.1, t.2.2.2.1, t.2.2.2.2.1, t.2.2.2.2.2.1, t.2.2.2.2.2.2.1, t.2.2.2.2.2.2.2.1, t.2.2.2.2.2.2.2.2.1, t.2.2.2.2.2.2.2.2.2, X))) := by
      by_cases hw : t.2.2.1 = 0
      · rw [if_pos (show t.2.2.1 ≤ 0 by rw [hw]; decide), if_pos (show t.2.2.1 ≤ 0 by rw [hw]; decide)]
        have hz := b4 hw
        by_cases ht : t.1 = 0
        · rw [if_pos (hz.trans ht), if_pos ht]
          by_cases hm : m5 ≤ m4 + 1
          · rw [if_pos hm]
            rw [oi_le] at hm
            rw [f_Judge_ask_L101_s, f_Model_stateOf_L134_s, if_pos (show z5 ≤ z4 + 1 by rw [oi_le]; omega), if_pos (show m5 ≤ m4 + 1 by rw [oi_le]; omega), if_pos hw, if_pos (show t.2.2.1 ≤ 0 by rw [hw]; decide), if_pos rfl]
            exact ⟨rfl, rfl, rfl, rfl, rfl, rfl, rfl, rfl⟩
          · rw [if_neg hm]
            rw [oi_le] at hm
            exact L 1 1 1 (fun _ => Or.inr ⟨by decide, by decide, Or.inr (by omega)⟩)
        · rw [if_neg (fun e => ht (hz.symm.trans e)), if_neg ht]
          rw [f_Judge_ask_L101_s]
          simp only [if_pos hw, if_true]
          split <;> exact ⟨rfl, rfl, rfl, rfl, rfl, rfl, rfl, rfl⟩
      · have ht := b5 hw
        rw [if_pos ht, if_neg (w_le b2 hw), if_neg (w_le b2 hw)]
        have st : ∀ mo xs : Int32, f_Judge_ask_L101 q dy pe ru rl bd bc bs bl br bk bw fz fn fv ((z5.toInt - (z4 + 1).toInt).toNat + 1) (z4 + 1) z5 mo xs t.2.2.2.2.1 t.2.2.2.2.2.1 t.2.2.2.2.2.2.1 t.2.2.2.2.2.2.2.1 z.2.2.2.2.2.1 t.2.2.1 t.2.2.2.1 z.2.2.2.2.2.2.2.2.1 z.2.2.2.2.2.2.2.2.2 = (3, t.2.2.2.2.1, t.2.2.2.2.2.1, t.2.2.2.2.2.2.1, t.2.2.2.2.2.2.2.1, z.2.2.2.2.2.1, t.2.2.1, t.2.2.2.1, z.2.2.2.2.2.2.2.2.1, z.2.2.2.2.2.2.2.2.2) := by
          intro mo xs
          rw [f_Judge_ask_L101_s]
          simp only [if_neg hw]
          repeat' split
          all_goals rfl
        rw [st, st]
        split <;> exact ⟨rfl, rfl, rfl, rfl, rfl, rfl, rfl, rfl⟩
    rcases hk with hp | hp
    · rw [if_pos hp] at hX
      subst hX
      rw [if_pos hp]
      exact fin
    · have hp' : ¬ kp = 0 := by rw [hp]; decide
      rw [if_neg hp'] at hX
      rw [if_neg hp', hX]
      exact fin
