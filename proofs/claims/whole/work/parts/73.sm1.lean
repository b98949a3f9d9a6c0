/-! run and suggest -/
theorem in_0 {va vb vc : Int64} : f_Model_in va vb vc = 0 ↔ (va.toInt < vb.toInt ∨ vc.toInt < va.toInt) := by
  unfold f_Model_in
  by_cases h1 : lg_cmp va vb < 0
  · rw [if_pos h1]
    rw [lg_cmp_lt, Int64.lt_iff_toInt_lt] at h1
    exact ⟨fun _ => Or.inl h1, fun _ => rfl⟩
  · rw [if_neg h1]
    rw [lg_cmp_lt, Int64.lt_iff_toInt_lt] at h1
    by_cases h2 : 0 < lg_cmp va vc
    · rw [if_pos h2]
      rw [lg_cmp_gt, Int64.lt_iff_toInt_lt] at h2
      exact ⟨fun _ => Or.inr h2, fun _ => rfl⟩
    · rw [if_neg h2]
      rw [lg_cmp_gt, Int64.lt_iff_toInt_lt] at h2
      exact ⟨fun e => absurd e (by decide), fun e => by rcases e with e | e; exact absurd e h1; exact absurd e h2⟩
def AN (an : Nat → Int64) (sx : Nat → Int32) (re : Nat → Int64) (q : Nat) : Prop :=
  an (7 * q) = (sx q).toInt64 ∧ an (7 * q + 1) = re (6 * q) ∧ an (7 * q + 2) = re (6 * q + 1) ∧ an (7 * q + 3) = re (6 * q + 2) ∧ an (7 * q + 4) = re (6 * q + 3) ∧ an (7 * q + 5) = re (6 * q + 4) ∧ an (7 * q + 6) = re (6 * q + 5)
/-- asked, the day, the answers -/
def RA (as_ ad : Int32) (an : Nat → Int64) (rc : Int32) (aq da : Int32) (sx : Nat → Int32) (re : Nat → Int64) : Prop :=
  as_ = aq ∧ ad = da ∧ (¬ as_ = 0 → ∀ q : Nat, (q : Int) < rc.toInt → AN an sx re q)
theorem ix_7 {q w : Int32} {x : Int} (h0 : 0 ≤ q.toInt) (h1 : q.toInt < 12) (hw : w.toInt = x) (w0 : 0 ≤ x) (w6 : x ≤ 6) : (q * 7 + w).toInt = 7 * q.toInt + x := by
  have a : (q * 7).toInt = q.toInt * 7 := oi_mulE rfl (by decide) (by omega) (by omega)
  have b : (q * 7 + w).toInt = q.toInt * 7 + x := oi_addE a hw (by omega) (by omega)
  rw [b]
  omega
theorem ka_1 {q w : Int32} {x : Nat} {v : Int64} {an : Nat → Int64} (h0 : 0 ≤ q.toInt) (h1 : q.toInt < 12) (hw : w.toInt = (x : Int)) (w6 : x ≤ 6) : f_PR_keepAnswer q w v an = vp_updL an (7 * q.toInt.toNat + x) v ∧ f_PR_answerOf q w an = an (7 * q.toInt.toNat + x) := by
  have e := ix_7 h0 h1 hw (by omega) (by omega)
  have e2 : (q * 7 + w).toNatClampNeg = 7 * q.toInt.toNat + x := by
    show (q * 7 + w).toInt.toNat = _
    omega
  unfold f_PR_keepAnswer f_PR_answerOf
  rw [if_neg (by rw [oi_lt, oi_z]; omega), if_neg (by rw [oi_le, show (84 : Int32).toInt = 84 by decide]; omega), e2, if_neg (by rw [oi_lt, oi_z]; omega), if_neg (by rw [oi_le, show (84 : Int32).toInt = 84 by decide]; omega)]
  exact ⟨rfl, rfl⟩
theorem ka_7 {q js wy : Int32} {j1 j2 j3 j4 mi : Int64} {an : Nat → Int64} (h0 : 0 ≤ q.toInt) (h1 : q.toInt < 12) : f_PR_keepAnswers q an js j1 j2 j3 j4 wy mi = vp_updL (vp_updL (vp_updL (vp_updL (vp_updL (vp_updL (vp_updL an (7 * q.toInt.toNat + 0) js.toInt64) (7 * q.toInt.toNat + 1) j1) (7 * q.toInt.toNat + 2) j2) (7 * q.toInt.toNat + 3) j3) (7 * q.toInt.toNat + 4) j4) (7 * q.toInt.toNat + 5) wy.toInt64) (7 * q.toInt.toNat + 6) mi := by
  unfold f_PR_keepAnswers
  simp only [lt_]
  rw [(ka_1 (w := 0) (x := 0) h0 h1 (by decide) (by decide)).1, (ka_1 (w := 1) (x := 1) h0 h1 (by decide) (by decide)).1, (ka_1 (w := 2) (x := 2) h0 h1 (by decide) (by decide)).1, (ka_1 (w := 3) (x := 3) h0 h1 (by decide) (by decide)).1, (ka_1 (w := 4) (x := 4) h0 h1 (by decide) (by decide)).1, (ka_1 (w := 5) (x := 5) h0 h1 (by decide) (by decide)).1, (ka_1 (w := 6) (x := 6) h0 h1 (by decide) (by decide)).1]
theorem ix_6 {q w : Int32} {x : Nat} (h0 : 0 ≤ q.toInt) (h1 : q.toInt < 12) (hw : w.toInt = (x : Int)) (w6 : x ≤ 6) : (6 * q + w).toNatClampNeg = 6 * q.toInt.toNat + x := by
  have a : (6 * q).toInt = 6 * q.toInt := oi_mulE (by decide) rfl (by omega) (by omega)
  have b : (6 * q + w).toInt = 6 * q.toInt + x := oi_addE a hw (by omega) (by omega)
  show (6 * q + w).toInt.toNat = _
  omega
theorem kp_6 {q : Int32} {j1 j2 j3 j4 : Int64} {re : Nat → Int64} (h0 : 0 ≤ q.toInt) (h1 : q.toInt < 12) : f_Model_keep q j1 j2 j3 j4 re = vp_updL (vp_updL (vp_updL (vp_updL re (6 * q.toInt.toNat) j1) (6 * q.toInt.toNat + 1) j2) (6 * q.toInt.toNat + 2) j3) (6 * q.toInt.toNat + 3) j4 := by
  have a : (6 * q).toInt = 6 * q.toInt := oi_mulE (by decide) rfl (by omega) (by omega)
  unfold f_Model_keep
  rw [ix_6 (w := 1) (x := 1) h0 h1 (by decide) (by decide), ix_6 (w := 2) (x := 2) h0 h1 (by decide) (by decide), ix_6 (w := 3) (x := 3) h0 h1 (by decide) (by decide), show (6 * q).toNatClampNeg = 6 * q.toInt.toNat by show (6 * q).toInt.toNat = _; omega]
theorem an_up {an re : Nat → Int64} {sx : Nat → Int32} {i st wy : Int32} {j1 j2 j3 j4 mi : Int64} {n : Nat} (hi : i.toInt.toNat = n) (h0 : 0 ≤ i.toInt) (h1 : i.toInt < 12) {q : Nat} (hq : q ≤ n) (h : q < n → AN an sx re q) :
    AN (f_PR_keepAnswers i an st j1 j2 j3 j4 wy mi) (upd sx i.toNatClampNeg st) (vp_updL (vp_updL (f_Model_keep i j1 j2 j3 j4 re) ((6 * i) + 4).toNatClampNeg wy.toInt64) ((6 * i) + 5).toNatClampNeg mi) q := by
  rw [ka_7 h0 h1, kp_6 h0 h1, ix_6 (w := 4) (x := 4) h0 h1 (by decide) (by decide), ix_6 (w := 5) (x := 5) h0 h1 (by decide) (by decide)]
  have hi' : i.toNatClampNeg = n := hi
  rw [hi, hi']
  have un : ∀ (f : Nat → Int64) (k j : Nat) (x : Int64), j ≠ k → vp_updL f k x j = f j := fun f k j x h => up_n f x h
  unfold AN
  rcases Nat.lt_or_eq_of_le hq with hl | he
  · obtain ⟨a0, a1, a2, a3, a4, a5, a6⟩ := h hl
    have us : upd sx n st q = sx q := if_neg (by omega)
    rw [us]
    refine ⟨?_, ?_, ?_, ?_, ?_, ?_, ?_⟩
    · rw [un _ _ _ _ (by omega), un _ _ _ _ (by omega), un _ _ _ _ (by omega), un _ _ _ _ (by omega), un _ _ _ _ (by omega), un _ _ _ _ (by omega), un _ _ _ _ (by omega)]
      exact a0
    all_goals rw [un _ _ _ _ (by omega), un _ _ _ _ (by omega), un _ _ _ _ (by omega), un _ _ _ _ (by omega), un _ _ _ _ (by omega), un _ _ _ _ (by omega), un _ _ _ _ (by omega), un _ _ _ _ (by omega), un _ _ _ _ (by omega), un _ _ _ _ (by omega), un _ _ _ _ (by omega), un _ _ _ _ (by omega), un _ _ _ _ (by omega)]
    all_goals assumption
  · subst he
    have us : upd sx q st q = st := if_pos rfl
    rw [us]
    refine ⟨?_, ?_, ?_, ?_, ?_, ?_, ?_⟩
    · rw [un _ _ _ _ (by omega), un _ _ _ _ (by omega), un _ _ _ _ (by omega), un _ _ _ _ (by omega), un _ _ _ _ (by omega), un _ _ _ _ (by omega)]
      exact up_s _ _ _
    · rw [un _ _ _ _ (by omega), un _ _ _ _ (by omega), un _ _ _ _ (by omega), un _ _ _ _ (by omega), un _ _ _ _ (by omega), up_s, un _ _ _ _ (by omega), un _ _ _ _ (by omega), un _ _ _ _ (by omega), un _ _ _ _ (by omega), un _ _ _ _ (by omega), up_s]
    · rw [un _ _ _ _ (by omega), un _ _ _ _ (by omega), un _ _ _ _ (by omega), un _ _ _ _ (by omega), up_s, un _ _ _ _ (by omega), un _ _ _ _ (by omega), un _ _ _ _ (by omega), un _ _ _ _ (by omega), up_s]
    · rw [un _ _ _ _ (by omega), un _ _ _ _ (by omega), un _ _ _ _ (by omega), up_s, un _ _ _ _ (by omega), un _ _ _ _ (by omega), un _ _ _ _ (by omega), up_s]
    · rw [un _ _ _ _ (by omega), un _ _ _ _ (by omega), up_s, un _ _ _ _ (by omega), un _ _ _ _ (by omega), up_s]
    · rw [un _ _ _ _ (by omega), up_s, un _ _ _ _ (by omega), up_s]
    · rw [up_s, up_s]
set_option maxHeartbeats 1000000 in
theorem rn_l {rc cc : Int32} {bn bd : Nat → Int64} {bc bs bl br bk : Nat → Int32} {bw : Nat → Int64} {rx cl : Int32} {nn dd : Nat → Int64} {fi sg lf rf ce sk : Nat → Int32} {sv : Nat → Int64} {fz : Int32} {fn : Nat → Int64} {fv : Nat → Int32} {gn gv : Nat → Int64} {fc : Int32} (hb : RB rc cc bn bd bc bs bl br bk bw rx cl nn dd fi sg lf rf ce sk sv) (hf : FR fz fn fv fc gn gv) (dy as_ ad : Int32) (an : Nat → Int64) (js : Int32) (j1 j2 j3 j4 : Int64) (pe wy : Int32) (mi : Int64) (ru rl : Nat → Int64) (pi wh : Int32) (ms : Int64) (aq da : Int32) (lu ld qu qd : Int64) (up dn re : Nat → Int64) (sx : Nat → Int32) :
    ∀ (n : Nat) (i bo : Int32) (xa : Nat → Int64) (xs : Int32) (x1 x2 x3 x4 : Int64) (xe xy : Int32) (xi : Int64) (xu xl : Nat → Int64) (xp xy' : Int32) (xm y1 y2 y3 y4 : Int64) (xu' xd xr : Nat → Int64) (xs' : Nat → Int32), (rc.toInt - i.toInt).toNat = n → 0 ≤ i.toInt → (∀ q : Nat, (q : Int) < i.toInt → (q : Int) < rc.toInt → AN xa xs' xr q) →
      (f_PR_run_L34 dy as_ ad an fz fn fv js j1 j2 j3 j4 pe wy mi ru rl rc bd bc bs bl br bk bw (n + 1) i bo xa xs x1 x2 x3 x4 xe xy xi xu xl).1 = 0 ∧
      (f_PR_run_L34 dy as_ ad an fz fn fv js j1 j2 j3 j4 pe wy mi ru rl rc bd bc bs bl br bk bw (n + 1) i bo xa xs x1 x2 x3 x4 xe xy xi xu xl).2.1 = (f_Model_run_L44 dy rx fc pi wh ms aq da lu ld qu qd dd fi sg lf rf ce sk sv gn gv up dn re sx (n + 1) i bo xp xy' xm y1 y2 y3 y4 xu' xd xr xs').1 ∧
      (f_Model_run_L44 dy rx fc pi wh ms aq da lu ld qu qd dd fi sg lf rf ce sk sv gn gv up dn re sx (n + 1) i bo xp xy' xm y1 y2 y3 y4 xu' xd xr xs').2.1 = 0 ∧
      RA (f_PR_run_L34 dy as_ ad an fz fn fv js j1 j2 j3 j4 pe wy mi ru rl rc bd bc bs bl br bk bw (n + 1) i bo xa xs x1 x2 x3 x4 xe xy xi xu xl).2.2.1 (f_PR_run_L34 dy as_ ad an fz fn fv js j1 j2 j3 j4 pe wy mi ru rl rc bd bc bs bl br bk bw (n + 1) i bo xa xs x1 x2 x3 x4 xe xy xi xu xl).2.2.2.1 (f_PR_run_L34 dy as_ ad an fz fn fv js j1 j2 j3 j4 pe wy mi ru rl rc bd bc bs bl br bk bw (n + 1) i bo xa xs x1 x2 x3 x4 xe xy xi xu xl).2.2.2.2.1 rc (f_Model_run_L44 dy rx fc pi wh ms aq da lu ld qu qd dd fi sg lf rf ce sk sv gn gv up dn re sx (n + 1) i bo xp xy' xm y1 y2 y3 y4 xu' xd xr xs').2.2.2.2.2.1 (f_Model_run_L44 dy rx fc pi wh ms aq da lu ld qu qd dd fi sg lf rf ce sk sv gn gv up dn re sx (n + 1) i bo xp xy' xm y1 y2 y3 y4 xu' xd xr xs').2.2.2.2.2.2.1 (f_Model_run_L44 dy rx fc pi wh ms aq da lu ld qu qd dd fi sg lf rf ce sk sv gn gv up dn re sx (n + 1) i bo xp xy' xm y1 y2 y3 y4 xu' xd xr xs').2.2.2.2.2.2.2.2.2.2.2.2.2.2 (f_Model_run_L44 dy rx fc pi wh ms aq da lu ld qu qd dd fi sg lf rf ce sk sv gn gv up dn re sx (n + 1) i bo xp xy' xm y1 y2 y3 y4 xu' xd xr xs').2.2.2.2.2.2.2.2.2.2.2.2.2.1 := by
  have er : rc = rx := hb.1
  have r0 := hb.2.2.1
  have r12 := hb.2.2.2.1
  intro n
  induction n with
  | zero =>
    intro i bo xa xs x1 x2 x3 x4 xe xy xi xu xl xp xy' xm y1 y2 y3 y4 xu' xd xr xs' hn h0 ha
    rw [f_PR_run_L34_s, f_Model_run_L44_s, if_pos (by rw [oi_le]; omega), if_pos (by rw [oi_le, ← er]; omega)]
    exact ⟨rfl, rfl, rfl, rfl, rfl, fun _ q hq => ha q (by omega) hq⟩
  | succ n ih =>
    intro i bo xa xs x1 x2 x3 x4 xe xy xi xu xl xp xy' xm y1 y2 y3 y4 xu' xd xr xs' hn h0 ha
    rw [f_PR_run_L34_s, f_Model_run_L44_s, if_neg (by rw [oi_le]; omega), if_neg (by rw [oi_le, ← er]; omega)]
    obtain ⟨k1, k2, k3, k4, A⟩ := as_eq (q := i) (dy := dy) (pe := xe) (pi := xp) (kp := 1) (ru := xu) (rl := xl) (up := xu') (dn := xd) (re := xr) hb hf h0 (by omega) (Or.inr rfl)
    rw [if_neg (by decide)] at A
    simp only [lt_]
    generalize f_Judge_ask i dy xe xu xl bd bc bs bl br bk bw fz fn fv = z at A ⊢
    generalize f_Model_stateOf i dy 1 fc xp dd fi sg lf rf ce sk sv gn gv xu' xd xr = t at A ⊢
    obtain ⟨a1, a2, a3, a4, a5, a6, a7, a8⟩ := A
    have us : upd xs' i.toNatClampNeg t.1 i.toNatClampNeg = t.1 := if_pos rfl
    have i1 : (i + 1).toInt = i.toInt + 1 := oi_addE rfl oi_1 (by omega) (by omega)
    rw [us, a1, a2, a3, a4, a5, a6, a7, a8]
    have nx : ∀ q : Nat, (q : Int) < (i + 1).toInt → (q : Int) < rc.toInt → AN (f_PR_keepAnswers i xa t.1 k1 k2 k3 k4 t.2.2.1 t.2.2.2.1) (upd xs' i.toNatClampNeg t.1) (vp_updL (vp_updL (f_Model_keep i k1 k2 k3 k4 xr) ((6 * i) + 4).toNatClampNeg t.2.2.1.toInt64) ((6 * i) + 5).toNatClampNeg t.2.2.2.1) q :=
      fun q hq hq2 => an_up rfl h0 (by omega) (by omega) (fun hl => ha q (by omega) hq2)
    by_cases h1 : t.1 = 1
    · rw [if_pos h1, if_pos h1]
      exact ih (i + 1) (bo + 1) _ _ _ _ _ _ _ _ _ _ _ _ _ _ _ _ _ _ _ _ _ _ (by omega) (by omega) nx
    · rw [if_neg h1, if_neg h1]
      exact ih (i + 1) bo _ _ _ _ _ _ _ _ _ _ _ _ _ _ _ _ _ _ _ _ _ _ (by omega) (by omega) nx
theorem i64_32 (x : Int32) : x.toInt64.toInt = x.toInt := Int32.toInt_toInt64 x
theorem rn_eq {rc cc : Int32} {bn bd : Nat → Int64} {bc bs bl br bk : Nat → Int32} {bw : Nat → Int64} {rx cl : Int32} {nn dd : Nat → Int64} {fi sg lf rf ce sk : Nat → Int32} {sv : Nat → Int64} {fz : Int32} {fn : Nat → Int64} {fv : Nat → Int32} {gn gv : Nat → Int64} {fc : Int32} (hb : RB rc cc bn bd bc bs bl br bk bw rx cl nn dd fi sg lf rf ce sk sv) (hf : FR fz fn fv fc gn gv) (dy as_ ad : Int32) (an : Nat → Int64) (js : Int32) (j1 j2 j3 j4 : Int64) (pe wy : Int32) (mi : Int64) (ru rl : Nat → Int64) (pi wh : Int32) (ms : Int64) (aq da : Int32) (lu ld qu qd : Int64) (up dn re : Nat → Int64) (sx : Nat → Int32) (ha : RA as_ ad an rc aq da sx re) :
    ∃ x y, x = f_PR_run dy as_ ad an fz fn fv js j1 j2 j3 j4 pe wy mi ru rl rc bd bc bs bl br bk bw ∧ y = f_Model_run dy rx fc pi wh ms aq da lu ld qu qd dd fi sg lf rf ce sk sv gn gv up dn re sx ∧ x.1 = y.2.1 ∧ (x.1 = 0 ∨ x.1 = 1) ∧ (x.1 = 0 → x.2.1 = y.1) ∧ RA x.2.2.1 x.2.2.2.1 x.2.2.2.2.1 rc y.2.2.2.2.2.1 y.2.2.2.2.2.2.1 y.2.2.2.2.2.2.2.2.2.2.2.2.2.2 y.2.2.2.2.2.2.2.2.2.2.2.2.2.1 := by
  refine ⟨_, _, rfl, rfl, ?_⟩
  have er : rc = rx := hb.1
  unfold f_PR_run f_Model_run
  simp only [lt_]
  have w0 : (0 : Int64).toInt = 0 := by decide
  have w1 : (1000000 : Int64).toInt = 1000000 := by decide
  have w2 : (1000000 : Int32).toInt = 1000000 := by decide
  by_cases h : f_Model_in dy.toInt64 0 1000000 = 0
  · rw [if_pos h]
    rw [in_0, i64_32, w0, w1] at h
    have e : ∀ {α : Type} (u v : α), (if dy < 0 then u else (if dy ≤ 1000000 then v else u)) = u := fun u v => by
      by_cases g : dy < 0
      · rw [if_pos g]
      · rw [if_neg g]
        rw [oi_lt, oi_z] at g
        rw [if_neg (by rw [oi_le, w2]; omega)]
    rw [e]
    exact ⟨rfl, Or.inr rfl, fun q => absurd (show (1 : Int32) = 0 from q) (by decide), ha⟩
  · rw [if_neg h]
    rw [in_0, i64_32, w0, w1] at h
    rw [if_neg (by rw [oi_lt, oi_z]; omega), if_pos (by rw [oi_le, w2]; omega), ← er]
    obtain ⟨a1, a2, a3, a4⟩ := rn_l hb hf dy as_ ad an js j1 j2 j3 j4 pe wy mi ru rl pi wh ms aq da lu ld qu qd up dn re sx rc.toInt.toNat 0 0 an js j1 j2 j3 j4 pe wy mi ru rl pi wh ms lu ld qu qd up dn re sx (by rw [oi_z]; omega) (by decide) (fun q hq => by rw [oi_z] at hq; omega)
    rw [← er] at a2 a3 a4
    exact ⟨a1.trans a3.symm, Or.inl a1, fun _ => a2, a4⟩
/-! suggest -/
/-- facts alike, their names are names, their values in range -/
def RF (fz : Int32) (fn : Nat → Int64) (fv : Nat → Int32) (fc : Int32) (gn gv : Nat → Int64) : Prop :=
  FR fz fn fv fc gn gv ∧ ∀ j : Nat, (j : Int) < fz.toInt → ¬ f_PR_isName (fn j) = 0 ∧ -1000000000 ≤ (fv j).toInt ∧ (fv j).toInt ≤ 1000000000
theorem fr_up {fz : Int32} {fn : Nat → Int64} {fv : Nat → Int32} {fc : Int32} {gn gv xb : Nat → Int64} {s : Nat} {vl : Int32} {v : Int64} (h : FR fz fn fv fc gn gv) (hx : ∀ j, j ≠ s → xb j = gv j) (hv : vl.toInt64 = v) : FR fz fn (upd fv s vl) fc gn (vp_updL xb s v) := by
  obtain ⟨a, b, c, d, e⟩ := h
  refine ⟨a, b, c, fun j hj => ⟨(d j hj).1, ?_⟩, e⟩
  by_cases hs : j = s
  · rw [hs, show upd fv s vl s = vl from if_pos rfl, up_s]
    exact hv
  · rw [show upd fv s vl j = fv j from if_neg hs, up_n _ _ hs, hx j hs]
    exact (d j hj).2
theorem iv_eq {vl : Int32} {v : Int64} (hv : vl.toInt64 = v) : f_PR_isValue vl = f_Model_in v (-1000000000) 1000000000 := by
  have w0 : (-1000000000 : Int64).toInt = -1000000000 := by decide
  have w1 : (1000000000 : Int64).toInt = 1000000000 := by decide
  have w2 : (-1000000000 : Int32).toInt = -1000000000 := by decide
  have w3 : (1000000000 : Int32).toInt = 1000000000 := by decide
  unfold f_PR_isValue f_Model_in
  have e1 : lg_cmp v (-1000000000) < 0 ↔ vl < -1000000000 := by rw [lg_cmp_lt, Int64.lt_iff_toInt_lt, ← hv, i64_32, w0, oi_lt, w2]
  have e2 : 0 < lg_cmp v 1000000000 ↔ 1000000000 < vl := by rw [lg_cmp_gt, Int64.lt_iff_toInt_lt, ← hv, i64_32, w1, oi_lt, w3]
  by_cases h1 : vl < -1000000000
  · rw [if_pos h1, if_pos (e1.mpr h1)]
  · rw [if_neg h1, if_neg (fun e => h1 (e1.mp e))]
    by_cases h2 : 1000000000 < vl
    · rw [if_pos h2, if_pos (e2.mpr h2)]
    · rw [if_neg h2, if_neg (fun e => h2 (e2.mp e))]
set_option maxHeartbeats 1000000 in
/-- one try -/
theorem wd_eq {rc cc : Int32} {bn bd : Nat → Int64} {bc bs bl br bk : Nat → Int32} {bw : Nat → Int64} {rx cl : Int32} {nn dd : Nat → Int64} {fi sg lf rf ce sk : Nat → Int32} {sv : Nat → Int64} {fz : Int32} {fn : Nat → Int64} {fv : Nat → Int32} {gn gv : Nat → Int64} {fc : Int32} (hb : RB rc cc bn bd bc bs bl br bk bw rx cl nn dd fi sg lf rf ce sk sv) (hf : FR fz fn fv fc gn gv) {nu sl vl ad js pe wy xp : Int32} {v j1 j2 j3 j4 mi : Int64} {ru rl xu xd xb xr : Nat → Int64} (h0 : 0 ≤ nu.toInt) (h1 : nu.toInt < rc.toInt) (s0 : 0 ≤ sl.toInt) (s1 : sl.toInt < fz.toInt) (hx : ∀ j, j ≠ sl.toNatClampNeg → xb j = gv j) (hv : vl.toInt64 = v) :
    (f_PR_wouldDo nu sl vl ad fz fn fv js j1 j2 j3 j4 pe wy mi ru rl bd bc bs bl br bk bw).2.1 = fv ∧
    (f_Model_in v (-1000000000) 1000000000 = 0 → (f_PR_wouldDo nu sl vl ad fz fn fv js j1 j2 j3 j4 pe wy mi ru rl bd bc bs bl br bk bw).1 = 0) ∧
    (¬ f_Model_in v (-1000000000) 1000000000 = 0 → (f_PR_wouldDo nu sl vl ad fz fn fv js j1 j2 j3 j4 pe wy mi ru rl bd bc bs bl br bk bw).1 = (if (f_Model_stateOf nu ad 0 fc xp dd fi sg lf rf ce sk sv gn (vp_updL xb sl.toNatClampNeg v) xu xd xr).1 = 0 then 1 else if (f_Model_stateOf nu ad 0 fc xp dd fi sg lf rf ce sk sv gn (vp_updL xb sl.toNatClampNeg v) xu xd xr).1 = 2 then 1 else 0)) ∧
    (f_Model_stateOf nu ad 0 fc xp dd fi sg lf rf ce sk sv gn (vp_updL xb sl.toNatClampNeg v) xu xd xr).2.2.2.2.2.2.2.2.2.2 = xr := by
  have hu := fr_up (s := sl.toNatClampNeg) hf hx hv
  have z40 := hf.2.2.1
  obtain ⟨k1, k2, k3, k4, A⟩ := as_eq (q := nu) (dy := ad) (pe := pe) (pi := xp) (kp := 0) (ru := ru) (rl := rl) (up := xu) (dn := xd) (re := xr) hb hu h0 h1 (Or.inl rfl)
  rw [if_pos rfl] at A
  have c40 : (40 : Int32).toInt = 40 := by decide
  have va : f_Facts_valueAt sl fv = fv sl.toNatClampNeg := by
    unfold f_Facts_valueAt
    rw [if_neg (by rw [oi_lt, oi_z]; omega), if_neg (by rw [oi_le, c40]; omega)]
  have ch : ∀ (w : Int32) (f : Nat → Int32), f_Facts_change sl w f = upd f sl.toNatClampNeg w := fun w f => by
    unfold f_Facts_change
    rw [if_neg (by rw [oi_lt, oi_z]; omega), if_neg (by rw [oi_le, c40]; omega)]
  have back : upd (upd fv sl.toNatClampNeg vl) sl.toNatClampNeg (fv sl.toNatClampNeg) = fv := by
    funext j
    by_cases hj : j = sl.toNatClampNeg
    · rw [hj]; exact if_pos rfl
    · exact (if_neg hj).trans (if_neg hj)
  unfold f_PR_wouldDo
  simp only [lt_]
  rw [iv_eq hv, va, ch, ch, back]
  generalize f_Judge_ask nu ad pe ru rl bd bc bs bl br bk bw fz fn (upd fv sl.toNatClampNeg vl) = z at A ⊢
  generalize f_Model_stateOf nu ad 0 fc xp dd fi sg lf rf ce sk sv gn (vp_updL xb sl.toNatClampNeg v) xu xd xr = t at A ⊢
  rw [A.1]
  refine ⟨?_, fun h => ?_, fun h => ?_, A.2.2.2.2.2.2.2⟩
  · repeat' split
    all_goals rfl
  · rw [if_pos h]
  · rw [if_neg h]
    repeat' split
    all_goals rfl
