/-- what suggest leaves -/
def SO (fv : Nat → Int32) (gv re : Nat → Int64) (c : Int32 × Int64 × (Nat → Int32) × Int32 × Int64 × Int64 × Int64 × Int64 × Int32 × Int32 × Int64 × (Nat → Int64) × (Nat → Int64)) (m : Int64 × Int32 × Int32 × Int32 × Int64 × Int64 × Int64 × Int64 × Int64 × (Nat → Int64) × (Nat → Int64) × (Nat → Int64) × (Nat → Int64)) : Prop :=
  c.1 = 0 ∧ c.2.1 = m.1 ∧ c.2.2.1 = fv ∧ m.2.1 = 0 ∧ m.2.2.2.2.2.2.2.2.2.1 = gv ∧ m.2.2.2.2.2.2.2.2.2.2.2.2 = re
theorem su_f (nu : Int32) (nm : Int64) (sp rx fc pi wh : Int32) (ms : Int64) (aq da : Int32) (lu ld qu qd : Int64) (dd : Nat → Int64) (fi sg lf rf ce sk : Nat → Int32) (sv gn gv up dn re : Nat → Int64) (n : Nat) (k : Int32) (fo : Int64) (fx : Int32) (ow : Int64) (xp xy : Int32) (xm x1 x2 x3 x4 : Int64) (xu xd xb xr : Nat → Int64) (hn : 1 ≤ n) (hf : ¬ fo = 1000000000000) :
    f_Model_suggest_L87 nu nm sp rx fc pi wh ms aq da lu ld qu qd dd fi sg lf rf ce sk sv gn gv up dn re n k fo fx ow xp xy xm x1 x2 x3 x4 xu xd xb xr = (fo, 0, xp, xy, xm, x1, x2, x3, x4, vp_updL xb fx.toNatClampNeg ow, xu, xd, xr) := by
  obtain ⟨n', rfl⟩ : ∃ n', n = n' + 1 := ⟨n - 1, by omega⟩
  rw [f_Model_suggest_L87_s]
  by_cases h : sp < k
  · rw [if_pos h]
  · rw [if_neg h, if_neg (fun e => hf (lc_z.mp e))]
set_option maxHeartbeats 4000000 in
theorem su_l {rc cc : Int32} {bn bd : Nat → Int64} {bc bs bl br bk : Nat → Int32} {bw : Nat → Int64} {rx cl : Int32} {nn dd : Nat → Int64} {fi sg lf rf ce sk : Nat → Int32} {sv : Nat → Int64} {fz : Int32} {fn : Nat → Int64} {fv : Nat → Int32} {gn gv : Nat → Int64} {fc : Int32} (hb : RB rc cc bn bd bc bs bl br bk bw rx cl nn dd fi sg lf rf ce sk sv) (hf : RF fz fn fv fc gn gv) {nu sp sl ow : Int32} (nm : Int64) (h0 : 0 ≤ nu.toInt) (h1 : nu.toInt < rc.toInt) (s0 : 0 ≤ sl.toInt) (s1 : sl.toInt < fz.toInt) (ho : ow = fv sl.toNatClampNeg) (h8 : sp.toInt ≤ 8) (as_ ad js : Int32) (j1 j2 j3 j4 : Int64) (pe wy : Int32) (mi : Int64) (ru rl : Nat → Int64) (pi wh : Int32) (ms : Int64) (aq : Int32) (lu ld qu qd : Int64) (up dn re : Nat → Int64) :
    ∀ (n : Nat) (i xs : Int32) (x1 x2 x3 x4 : Int64) (xe xy : Int32) (xi : Int64) (xu xl : Nat → Int64) (xp xy' : Int32) (xm y1 y2 y3 y4 : Int64) (xu' xd xb : Nat → Int64), 1 ≤ i.toInt → i.toInt + (n : Int) = 10 → 1 ≤ n → (∀ j, j ≠ sl.toNatClampNeg → xb j = gv j) →
      SO fv gv re (f_PR_suggest_L115 nu nm sp as_ ad fz fn fv js j1 j2 j3 j4 pe wy mi ru rl rc bd bc bs bl br bk bw n i sl ow fv xs x1 x2 x3 x4 xe xy xi xu xl) (f_Model_suggest_L87 nu nm sp rx fc pi wh ms aq ad lu ld qu qd dd fi sg lf rf ce sk sv gn gv up dn re n i 1000000000000 sl (gv sl.toNatClampNeg) xp xy' xm y1 y2 y3 y4 xu' xd xb re) := by
  obtain ⟨hf1, hf2⟩ := hf
  have sn : ((sl.toNatClampNeg : Nat) : Int) < fz.toInt := by
    show ((sl.toInt.toNat : Nat) : Int) < _
    omega
  have og : ow.toInt64 = gv sl.toNatClampNeg := by rw [ho]; exact (hf1.2.2.2.1 _ sn).2
  obtain ⟨-, o1, o2⟩ := hf2 _ sn
  rw [← ho] at o1 o2
  have e0 : lg_cmp 1000000000000 1000000000000 = 0 := by decide
  have gb : ∀ xb : Nat → Int64, (∀ j, j ≠ sl.toNatClampNeg → xb j = gv j) → vp_updL xb sl.toNatClampNeg (gv sl.toNatClampNeg) = gv := by
    intro xb hx
    funext j
    by_cases hj : j = sl.toNatClampNeg
    · rw [hj, up_s]
    · rw [up_n _ _ hj, hx j hj]
  intro n
  induction n with
  | zero => intro i xs x1 x2 x3 x4 xe xy xi xu xl xp xy' xm y1 y2 y3 y4 xu' xd xb a b c; omega
  | succ n ih =>
    intro i xs x1 x2 x3 x4 xe xy xi xu xl xp xy' xm y1 y2 y3 y4 xu' xd xb a b c hx
    rw [f_PR_suggest_L115_s, f_Model_suggest_L87_s]
    by_cases hs : sp < i
    · rw [if_pos hs, if_pos hs, gb xb hx]
      exact ⟨rfl, rfl, rfl, rfl, rfl, rfl⟩
    · rw [if_neg hs, if_neg hs]
      rw [oi_lt] at hs
      have i1 : (i + 1).toInt = i.toInt + 1 := oi_addE rfl oi_1 (by omega) (by omega)
      have b1 : (ow + i).toInt = ow.toInt + i.toInt := oi_addE rfl rfl (by omega) (by omega)
      have b2 : (ow - i).toInt = ow.toInt - i.toInt := oi_subE rfl rfl (by omega) (by omega)
      have g1 : (gv sl.toNatClampNeg + i.toInt64).toInt = ow.toInt + i.toInt := by
        rw [← og, Int64.toInt_add, i64_32, i64_32]
        exact Jvm.Kit.bmod64 (by omega) (by omega)
      have g2 : (gv sl.toNatClampNeg - i.toInt64).toInt = ow.toInt - i.toInt := by
        rw [← og, Int64.toInt_sub, i64_32, i64_32]
        exact Jvm.Kit.bmod64 (by omega) (by omega)
      have v1 : (ow + i).toInt64 = gv sl.toNatClampNeg + i.toInt64 := i64_ext (by rw [i64_32, g1, b1])
      have v2 : (ow - i).toInt64 = gv sl.toNatClampNeg - i.toInt64 := i64_ext (by rw [i64_32, g2, b2])
      have f1 : ¬ gv sl.toNatClampNeg + i.toInt64 = 1000000000000 := fun e => by
        rw [e, show (1000000000000 : Int64).toInt = 1000000000000 by decide] at g1
        omega
      have f2 : ¬ gv sl.toNatClampNeg - i.toInt64 = 1000000000000 := fun e => by
        rw [e, show (1000000000000 : Int64).toInt = 1000000000000 by decide] at g2
        omega
      simp only [lt_, if_pos e0, if_neg (fun e => f1 (lc_z.mp e))]
      generalize hg1 : gv sl.toNatClampNeg + i.toInt64 = V1 at *
      generalize hg2 : gv sl.toNatClampNeg - i.toInt64 = V2 at *
      have way2 : ∀ (xs : Int32) (x1 x2 x3 x4 : Int64) (xe xy : Int32) (xi : Int64) (xu xl : Nat → Int64) (xp xy' : Int32) (xm y1 y2 y3 y4 : Int64) (xu' xd xb : Nat → Int64), (∀ j, j ≠ sl.toNatClampNeg → xb j = gv j) → ∀ W, W = f_PR_wouldDo nu sl (ow - i) ad fz fn fv xs x1 x2 x3 x4 xe xy xi xu xl bd bc bs bl br bk bw → ∀ S, S = f_Model_stateOf nu ad 0 fc xp dd fi sg lf rf ce sk sv gn (vp_updL xb sl.toNatClampNeg V2) xu' xd re →
          SO fv gv re (if W.1 = 0 then f_PR_suggest_L115 nu nm sp as_ ad fz fn fv js j1 j2 j3 j4 pe wy mi ru rl rc bd bc bs bl br bk bw n (i + 1) sl ow W.2.1 W.2.2.1 W.2.2.2.1 W.2.2.2.2.1 W.2.2.2.2.2.1 W.2.2.2.2.2.2.1 W.2.2.2.2.2.2.2.1 W.2.2.2.2.2.2.2.2.1 W.2.2.2.2.2.2.2.2.2.1 W.2.2.2.2.2.2.2.2.2.2.1 W.2.2.2.2.2.2.2.2.2.2.2 else (0, (ow - i).toInt64, W.2.1, W.2.2.1, W.2.2.2.1, W.2.2.2.2.1, W.2.2.2.2.2.1, W.2.2.2.2.2.2.1, W.2.2.2.2.2.2.2.1, W.2.2.2.2.2.2.2.2.1, W.2.2.2.2.2.2.2.2.2.1, W.2.2.2.2.2.2.2.2.2.2.1, W.2.2.2.2.2.2.2.2.2.2.2))
            (if f_Model_in V2 (-1000000000) 1000000000 = 0 then f_Model_suggest_L87 nu nm sp rx fc pi wh ms aq ad lu ld qu qd dd fi sg lf rf ce sk sv gn gv up dn re n (i + 1) 1000000000000 sl (gv sl.toNatClampNeg) xp xy' xm y1 y2 y3 y4 xu' xd xb re else (if S.1 = 0 then f_Model_suggest_L87 nu nm sp rx fc pi wh ms aq ad lu ld qu qd dd fi sg lf rf ce sk sv gn gv up dn re n (i + 1) V2 sl (gv sl.toNatClampNeg) S.2.1 S.2.2.1 S.2.2.2.1 S.2.2.2.2.1 S.2.2.2.2.2.1 S.2.2.2.2.2.2.1 S.2.2.2.2.2.2.2.1 S.2.2.2.2.2.2.2.2.1 S.2.2.2.2.2.2.2.2.2.1 (vp_updL xb sl.toNatClampNeg V2) S.2.2.2.2.2.2.2.2.2.2 else (if S.1 = 2 then f_Model_suggest_L87 nu nm sp rx fc pi wh ms aq ad lu ld qu qd dd fi sg lf rf ce sk sv gn gv up dn re n (i + 1) V2 sl (gv sl.toNatClampNeg) S.2.1 S.2.2.1 S.2.2.2.1 S.2.2.2.2.1 S.2.2.2.2.2.1 S.2.2.2.2.2.2.1 S.2.2.2.2.2.2.2.1 S.2.2.2.2.2.2.2.2.1 S.2.2.2.2.2.2.2.2.2.1 (vp_updL xb sl.toNatClampNeg V2) S.2.2.2.2.2.2.2.2.2.2 else f_Model_suggest_L87 nu nm sp rx fc pi wh ms aq ad lu ld qu qd dd fi sg lf rf ce sk sv gn gv up dn re n (i + 1) 1000000000000 sl (gv sl.toNatClampNeg) S.2.1 S.2.2.1 S.2.2.2.1 S.2.2.2.2.1 S.2.2.2.2.2.1 S.2.2.2.2.2.2.1 S.2.2.2.2.2.2.2.1 S.2.2.2.2.2.2.2.2.1 S.2.2.2.2.2.2.2.2.2.1 (vp_updL xb sl.toNatClampNeg V2) S.2.2.2.2.2.2.2.2.2.2))) := by
        intro xs x1 x2 x3 x4 xe xy xi xu xl xp xy' xm y1 y2 y3 y4 xu' xd xb hx W hW S hS
        have D := wd_eq (vl := ow - i) (v := V2) (ad := ad) (js := xs) (j1 := x1) (j2 := x2) (j3 := x3) (j4 := x4) (pe := xe) (wy := xy) (mi := xi) (ru := xu) (rl := xl) (xp := xp) (xu := xu') (xd := xd) (xb := xb) (xr := re) hb hf1 h0 h1 s0 s1 hx v2
        rw [← hW, ← hS] at D
        obtain ⟨d1, d2, d3, d4⟩ := D
        rw [d1, d4]
        have hx' : ∀ j, j ≠ sl.toNatClampNeg → vp_updL xb sl.toNatClampNeg V2 j = gv j := fun j hj => by rw [up_n _ _ hj, hx j hj]
        by_cases c2 : f_Model_in V2 (-1000000000) 1000000000 = 0
        · rw [if_pos c2, if_pos (d2 c2)]
          exact ih (i + 1) _ _ _ _ _ _ _ _ _ _ _ _ _ _ _ _ _ _ _ _ (by omega) (by omega) (by omega) hx
        · rw [if_neg c2]
          have d3 := d3 c2
          by_cases t0 : S.1 = 0
          · rw [if_pos t0] at d3
            rw [if_pos t0, if_neg (by rw [d3]; decide), su_f _ _ _ _ _ _ _ _ _ _ _ _ _ _ _ _ _ _ _ _ _ _ _ _ _ _ _ _ _ _ _ _ _ _ _ _ _ _ _ _ _ _ _ (by omega) f2, gb _ hx']
            exact ⟨rfl, v2, rfl, rfl, rfl, rfl⟩
          · rw [if_neg t0] at d3 ⊢
            by_cases t2 : S.1 = 2
            · rw [if_pos t2] at d3
              rw [if_pos t2, if_neg (by rw [d3]; decide), su_f _ _ _ _ _ _ _ _ _ _ _ _ _ _ _ _ _ _ _ _ _ _ _ _ _ _ _ _ _ _ _ _ _ _ _ _ _ _ _ _ _ _ _ (by omega) f2, gb _ hx']
              exact ⟨rfl, v2, rfl, rfl, rfl, rfl⟩
            · rw [if_neg t2] at d3 ⊢
              rw [if_pos d3]
              exact ih (i + 1) _ _ _ _ _ _ _ _ _ _ _ _ _ _ _ _ _ _ _ _ (by omega) (by omega) (by omega) hx'
      have D := wd_eq (vl := ow + i) (v := V1) (ad := ad) (js := xs) (j1 := x1) (j2 := x2) (j3 := x3) (j4 := x4) (pe := xe) (wy := xy) (mi := xi) (ru := xu) (rl := xl) (xp := xp) (xu := xu') (xd := xd) (xb := xb) (xr := re) hb hf1 h0 h1 s0 s1 hx v1
      generalize f_PR_wouldDo nu sl (ow + i) ad fz fn fv xs x1 x2 x3 x4 xe xy xi xu xl bd bc bs bl br bk bw = W at D ⊢
      generalize f_Model_stateOf nu ad 0 fc xp dd fi sg lf rf ce sk sv gn (vp_updL xb sl.toNatClampNeg V1) xu' xd re = S at D ⊢
      obtain ⟨d1, d2, d3, d4⟩ := D
      rw [d1, d4]
      have hx' : ∀ j, j ≠ sl.toNatClampNeg → vp_updL xb sl.toNatClampNeg V1 j = gv j := fun j hj => by rw [up_n _ _ hj, hx j hj]
      by_cases c1 : f_Model_in V1 (-1000000000) 1000000000 = 0
      · rw [if_pos c1, if_pos (d2 c1)]
        exact way2 _ _ _ _ _ _ _ _ _ _ _ _ _ _ _ _ _ _ _ _ hx _ rfl _ rfl
      · rw [if_neg c1]
        have d3 := d3 c1
        by_cases t0 : S.1 = 0
        · rw [if_pos t0] at d3
          rw [if_pos t0, if_neg (by rw [d3]; decide), su_f _ _ _ _ _ _ _ _ _ _ _ _ _ _ _ _ _ _ _ _ _ _ _ _ _ _ _ _ _ _ _ _ _ _ _ _ _ _ _ _ _ _ _ (by omega) f1, gb _ hx']
          exact ⟨rfl, v1, rfl, rfl, rfl, rfl⟩
        · rw [if_neg t0] at d3 ⊢
          by_cases t2 : S.1 = 2
          · rw [if_pos t2] at d3
            rw [if_pos t2, if_neg (by rw [d3]; decide), su_f _ _ _ _ _ _ _ _ _ _ _ _ _ _ _ _ _ _ _ _ _ _ _ _ _ _ _ _ _ _ _ _ _ _ _ _ _ _ _ _ _ _ _ (by omega) f1, gb _ hx']
            exact ⟨rfl, v1, rfl, rfl, rfl, rfl⟩
          · rw [if_neg t2] at d3 ⊢
            rw [if_pos d3]
            exact way2 _ _ _ _ _ _ _ _ _ _ _ _ _ _ _ _ _ _ _ _ hx' _ rfl _ rfl
theorem su_eq {rc cc : Int32} {bn bd : Nat → Int64} {bc bs bl br bk : Nat → Int32} {bw : Nat → Int64} {rx cl : Int32} {nn dd : Nat → Int64} {fi sg lf rf ce sk : Nat → Int32} {sv : Nat → Int64} {fz : Int32} {fn : Nat → Int64} {fv : Nat → Int32} {gn gv : Nat → Int64} {fc : Int32} (hb : RB rc cc bn bd bc bs bl br bk bw rx cl nn dd fi sg lf rf ce sk sv) (hf : RF fz fn fv fc gn gv) (nu : Int32) (nm : Int64) (sp as_ ad js : Int32) (j1 j2 j3 j4 : Int64) (pe wy : Int32) (mi : Int64) (ru rl : Nat → Int64) (pi wh : Int32) (ms : Int64) (aq da : Int32) (lu ld qu qd : Int64) (up dn re : Nat → Int64) (ea : as_ = aq) (ed : ad = da) :
    ∃ x y, x = f_PR_suggest nu nm sp as_ ad fz fn fv js j1 j2 j3 j4 pe wy mi ru rl rc bd bc bs bl br bk bw ∧ y = f_Model_suggest nu nm sp rx fc pi wh ms aq da lu ld qu qd dd fi sg lf rf ce sk sv gn gv up dn re ∧ x.1 = y.2.1 ∧ (x.1 = 0 ∨ x.1 = 1 ∨ x.1 = 2) ∧ (x.1 = 0 → x.2.1 = y.1) ∧ x.2.2.1 = fv ∧ y.2.2.2.2.2.2.2.2.2.1 = gv ∧ y.2.2.2.2.2.2.2.2.2.2.2.2 = re := by
  refine ⟨_, _, rfl, rfl, ?_⟩
  have er : rc = rx := hb.1
  have r0 := hb.2.2.1
  have r12 := hb.2.2.2.1
  have hf1 := hf.1
  obtain ⟨g1, g2⟩ := fd_eq (nm := nm) hf1
  have n1 : (-1 : Int32).toInt = -1 := by decide
  have one : ∀ {P : Prop}, ((1 : Int32) = 0 → P) := fun e => absurd e (by decide)
  have two : ∀ {P : Prop}, ((2 : Int32) = 0 → P) := fun e => absurd e (by decide)
  unfold f_PR_suggest f_Model_suggest
  simp only [lt_]
  rw [g1, ← er, ← ea, ← ed]
  generalize f_Model_factOf nm fc gn = z at g2 ⊢
  have c8 : (8 : Int64).toInt = 8 := by decide
  have q1 : f_Model_in nu.toInt64 0 (rc.toInt64 - 1) = 0 ↔ (nu.toInt < 0 ∨ rc.toInt ≤ nu.toInt) := by
    rw [in_0, i64_32, i64_0, Int64.toInt_sub, i64_32, show (1 : Int64).toInt = 1 by decide, Jvm.Kit.bmod64 (by omega) (by omega)]
    omega
  have q2 : f_Model_in sp.toInt64 0 8 = 0 ↔ (sp.toInt < 0 ∨ 8 < sp.toInt) := by rw [in_0, i64_32, i64_0, c8]
  have nb : nu < 0 ↔ nu.toInt < 0 := by rw [oi_lt, oi_z]
  have nb2 : nu < rc ↔ nu.toInt < rc.toInt := oi_lt
  have sb : sp < 0 ↔ sp.toInt < 0 := by rw [oi_lt, oi_z]
  have sb2 : sp ≤ 8 ↔ sp.toInt ≤ 8 := by rw [oi_le, oi_8]
  by_cases h1 : nu.toInt < 0 ∨ rc.toInt ≤ nu.toInt
  · rw [if_pos (q1.mpr h1)]
    by_cases h2 : nu.toInt < 0
    · rw [if_pos (nb.mpr h2)]
      exact ⟨rfl, Or.inr (Or.inl rfl), one, rfl, rfl, rfl⟩
    · rw [if_neg (fun e => h2 (nb.mp e)), if_neg (fun e => by have := nb2.mp e; omega)]
      exact ⟨rfl, Or.inr (Or.inl rfl), one, rfl, rfl, rfl⟩
  · rw [if_neg (fun e => h1 (q1.mp e)), if_neg (fun e => h1 (Or.inl (nb.mp e))), if_pos (nb2.mpr (by omega))]
    by_cases h3 : sp.toInt < 0 ∨ 8 < sp.toInt
    · rw [if_pos (q2.mpr h3)]
      have e : ∀ {α : Type} (u v : α), (if sp < 0 then u else (if sp ≤ 8 then v else u)) = u := fun u v => by
        by_cases g : sp < 0
        · rw [if_pos g]
        · have g9 : ¬ sp.toInt < 0 := fun x => g (sb.mpr x)
          rw [if_neg g, if_neg (fun e => by have := sb2.mp e; omega)]
      rw [e]
      split <;> exact ⟨rfl, Or.inr (Or.inl rfl), one, rfl, rfl, rfl⟩
    · rw [if_neg (fun e => h3 (q2.mp e)), if_neg (fun e => h3 (Or.inl (sb.mp e))), if_pos (sb2.mpr (by omega))]
      rcases g2 with ⟨z1, z2⟩ | ⟨z1, z2, z3⟩
      · rw [if_pos z1, if_pos (show z < 0 by rw [z1]; decide)]
        split <;> exact ⟨rfl, Or.inr (Or.inl rfl), one, rfl, rfl, rfl⟩
      · have sn : ((z.toNatClampNeg : Nat) : Int) < fz.toInt := by
          show ((z.toInt.toNat : Nat) : Int) < _
          omega
        obtain ⟨y1, y2, y3⟩ := hf.2 _ sn
        rw [z3] at y1
        rw [if_neg y1, if_neg (fun e => by rw [e, n1] at z1; omega), if_neg (show ¬ z < 0 by rw [oi_lt, oi_z]; omega)]
        by_cases ha : as_ = 0
        · rw [if_pos ha, if_pos ha]
          exact ⟨rfl, Or.inr (Or.inr rfl), two, rfl, rfl, rfl⟩
        · rw [if_neg ha, if_neg ha]
          have z40 := hf1.2.2.1
          have va : f_Facts_valueAt z fv = fv z.toNatClampNeg := by
            unfold f_Facts_valueAt
            rw [if_neg (by rw [oi_lt, oi_z]; omega), if_neg (by rw [oi_le, show (40 : Int32).toInt = 40 by decide]; omega)]
          rw [va]
          obtain ⟨a1, a2, a3, a4, a5, a6⟩ := su_l (nu := nu) (sp := sp) (sl := z) hb hf nm (by omega) (by omega) z1 z2 rfl (by omega) as_ ad js j1 j2 j3 j4 pe wy mi ru rl pi wh ms as_ lu ld qu qd up dn re 9 1 js j1 j2 j3 j4 pe wy mi ru rl pi wh ms lu ld qu qd up dn gv (by decide) (by decide) (by decide) (fun _ _ => rfl)
          rw [← er] at a2 a4 a5 a6
          exact ⟨a1.trans a4.symm, Or.inl a1, fun _ => a2, a3, a5, a6⟩
