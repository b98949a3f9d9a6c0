/-! read -/
theorem pf_c {sk sk' : Nat → Int32} (h : ∀ j, 240 ≤ j → sk' j = sk j) : ∀ (n k p : Nat), 240 ≤ k → pfx sk n k p → pfx sk' n k p := by
  intro n
  induction n with
  | zero => intro k p _ g; exact g
  | succ n ih =>
    intro k p hk g
    unfold pfx at g ⊢
    rw [h k hk]
    by_cases c1 : sk k = 1 ∨ sk k = 2
    · rw [if_pos c1] at g ⊢
      exact ⟨g.1, ih _ _ (by omega) g.2⟩
    · rw [if_neg c1] at g ⊢
      by_cases c2 : sk k = 78
      · rw [if_pos c2] at g ⊢
        exact ⟨g.1, ih _ _ (by omega) g.2⟩
      · rw [if_neg c2] at g ⊢
        exact ⟨g.1, ih _ _ (by omega) g.2⟩
theorem rb_c {rc cc : Int32} {bn bd : Nat → Int64} {bc bs bl br bk : Nat → Int32} {bw : Nat → Int64} {ru cl : Int32} {nn dd nn' dd' : Nat → Int64} {fi sg lf rf ce sk fi' sg' lf' rf' ce' sk' : Nat → Int32} {sv sv' : Nat → Int64} (hB : RB rc cc bn bd bc bs bl br bk bw ru cl nn dd fi sg lf rf ce sk sv) (h1 : ∀ j, 12 ≤ j → nn' j = nn j ∧ dd' j = dd j) (h2 : ∀ j, 13 ≤ j → fi' j = fi j) (h3 : ∀ j, 120 ≤ j → sg' j = sg j ∧ lf' j = lf j ∧ rf' j = rf j ∧ ce' j = ce j) (h4 : ∀ j, 240 ≤ j → sk' j = sk j ∧ sv' j = sv j) : RB rc cc bn bd bc bs bl br bk bw ru cl nn' dd' fi' sg' lf' rf' ce' sk' sv' := by
  obtain ⟨a1, a2, a3, a4, a5, a6, a7, a8, N, a9, a10⟩ := hB
  refine ⟨a1, a2, a3, a4, a5, a6, fun q hq => ?_, a8, N, fun k hk => ?_, fun k hk => ?_⟩
  · rw [(h1 (12 + q) (by omega)).1, (h1 (12 + q) (by omega)).2, h2 (13 + q) (by omega), h2 (14 + q) (by omega)]
    exact a7 q hq
  · rw [(h4 (240 + k) (by omega)).1, (h4 (240 + k) (by omega)).2]
    exact a9 k hk
  · obtain ⟨⟨b1, b2, b3, b4, b5, b6, b7, b8, b9, b10, b11⟩, b12⟩ := a10 k hk
    obtain ⟨e1, e2, e3, e4⟩ := h3 (120 + k) (by omega)
    refine ⟨⟨b1, by rw [e1]; exact b2, by rw [e2]; exact b3, by rw [e3]; exact b4, by rw [e4]; exact b5, b6, b7, b8, b9, ?_, ?_⟩, b12⟩
    · exact pf_c (fun j hj => (h4 j hj).1) _ _ _ (by omega) b10
    · exact pf_c (fun j hj => (h4 j hj).1) _ _ _ (by omega) b11
theorem rd_st (ml mk mp : Int32) (mv : Int64) (ru cl aq : Int32) (mt : Nat → Int32) (nn dd : Nat → Int64) (fi sg lf rf ce sk : Nat → Int32) (sv : Nat → Int64) (yop : Nat → Int32) (tf : Nat → Int32) : f_Model_read ml mk mp mv ru cl aq mt nn dd fi sg lf rf ce sk sv yop = LR (ml, mk, mp, mv, ru, cl, aq, mt, nn, dd, fi, sg, lf, rf, ce, sk, sv, yop) 121 0 0 0 0 (AT ml tf 0) mk mp mv (nI 0) (0, 0, nn, dd, fi, sg, lf, rf, ce) 0 0 sk sv yop := by
  have a0 : AT ml tf 0 = 0 := rfl
  have n0 : nI 0 = 0 := rfl
  rw [a0, n0]
  unfold f_Model_read LR
  generalize 121 = n
  rfl
set_option maxHeartbeats 2000000 in
theorem rd_eq {tl ml : Int32} {tf mt : Nat → Int32} (hR : RT tl tf ml mt) {rc cc : Int32} {bn bd : Nat → Int64} {bc bs bl br bk : Nat → Int32} {bw : Nat → Int64} {ru cl : Int32} {nn dd : Nat → Int64} {fi sg lf rf ce sk : Nat → Int32} {sv : Nat → Int64} (hB : RB rc cc bn bd bc bs bl br bk bw ru cl nn dd fi sg lf rf ce sk sv) (oB oB2 : Nat) (as_ : Int32) (wk wp : Nat → Int32) (ww bn2 bd2 : Nat → Int64) (bc2 bs2 bl2 br2 bk2 : Nat → Int32) (bw2 : Nat → Int64) (mk mp : Int32) (mv : Int64) (aq : Int32) (yop : Nat → Int32) :
    ∃ x y, x = f_PR_read oB oB2 as_ wk wp ww tl tf bn2 bd2 bc2 bs2 bl2 br2 bk2 bw2 ∧ y = f_Model_read ml mk mp mv ru cl aq mt nn dd fi sg lf rf ce sk sv yop ∧ x.1 = y.1 ∧ y.2.1 = 0 ∧
      ((x.2.1 = oB ∧ x.2.2.1 = oB2 ∧ x.2.2.2.1 = as_ ∧ x.2.2.2.2.2.2.2.2.1 = tl ∧ y.2.2.1 = ml ∧ y.2.2.2.2.2.2.2.2.2.2.2.2.2.2.1 = aq ∧ RB rc cc bn bd bc bs bl br bk bw y.2.2.2.2.2.2.2.2.2.2.2.1 y.2.2.2.2.2.2.2.2.2.2.2.2.1 y.2.2.2.2.2.2.2.2.2.2.2.2.2.2.2.1 y.2.2.2.2.2.2.2.2.2.2.2.2.2.2.2.2.1 y.2.2.2.2.2.2.2.2.2.2.2.2.2.2.2.2.2.1 y.2.2.2.2.2.2.2.2.2.2.2.2.2.2.2.2.2.2.1 y.2.2.2.2.2.2.2.2.2.2.2.2.2.2.2.2.2.2.2.1 y.2.2.2.2.2.2.2.2.2.2.2.2.2.2.2.2.2.2.2.2.1 y.2.2.2.2.2.2.2.2.2.2.2.2.2.2.2.2.2.2.2.2.2.1 y.2.2.2.2.2.2.2.2.2.2.2.2.2.2.2.2.2.2.2.2.2.2.1 y.2.2.2.2.2.2.2.2.2.2.2.2.2.2.2.2.2.2.2.2.2.2.2.1) ∨
       (x.2.1 = oB2 ∧ x.2.2.1 = oB ∧ x.2.2.2.1 = 0 ∧ x.2.2.2.2.2.2.2.2.1 = 0 ∧ y.2.2.1 = 0 ∧ y.2.2.2.2.2.2.2.2.2.2.2.2.2.2.1 = 0 ∧ RB x.2.2.2.2.2.2.2.2.2.1 x.2.2.2.2.2.2.2.2.2.2.1 x.2.2.2.2.2.2.2.2.2.2.2.2.1 x.2.2.2.2.2.2.2.2.2.2.2.2.2.1 x.2.2.2.2.2.2.2.2.2.2.2.2.2.2.1 x.2.2.2.2.2.2.2.2.2.2.2.2.2.2.2.1 x.2.2.2.2.2.2.2.2.2.2.2.2.2.2.2.2.1 x.2.2.2.2.2.2.2.2.2.2.2.2.2.2.2.2.2.1 x.2.2.2.2.2.2.2.2.2.2.2.2.2.2.2.2.2.2.1 x.2.2.2.2.2.2.2.2.2.2.2.2.2.2.2.2.2.2.2 y.2.2.2.2.2.2.2.2.2.2.2.1 y.2.2.2.2.2.2.2.2.2.2.2.2.1 y.2.2.2.2.2.2.2.2.2.2.2.2.2.2.2.1 y.2.2.2.2.2.2.2.2.2.2.2.2.2.2.2.2.1 y.2.2.2.2.2.2.2.2.2.2.2.2.2.2.2.2.2.1 y.2.2.2.2.2.2.2.2.2.2.2.2.2.2.2.2.2.2.1 y.2.2.2.2.2.2.2.2.2.2.2.2.2.2.2.2.2.2.2.1 y.2.2.2.2.2.2.2.2.2.2.2.2.2.2.2.2.2.2.2.2.1 y.2.2.2.2.2.2.2.2.2.2.2.2.2.2.2.2.2.2.2.2.2.1 y.2.2.2.2.2.2.2.2.2.2.2.2.2.2.2.2.2.2.2.2.2.2.1 y.2.2.2.2.2.2.2.2.2.2.2.2.2.2.2.2.2.2.2.2.2.2.2.1)) := by
  have em : ml = tl := hR.1.symm
  subst em
  have hm := rd_st ml mk mp mv ru cl aq mt nn dd fi sg lf rf ce sk sv yop tf
  refine ⟨_, _, rfl, rfl, ?_⟩
  generalize f_Model_read ml mk mp mv ru cl aq mt nn dd fi sg lf rf ce sk sv yop = y at hm ⊢
  obtain ⟨s1, s2⟩ := tk_ok hR wk wp ww
  generalize hx : f_PR_read oB oB2 as_ wk wp ww ml tf bn2 bd2 bc2 bs2 bl2 br2 bk2 bw2 = x
  unfold f_PR_read f_Reader_takes at hx
  rw [lt_b, lt_b, lt_b] at hx
  have em0 : f_Book_empty = (0, 0, 0) := rfl
  rw [em0, s1] at hx
  dsimp only at hx
  generalize f_Words_split wk wp ww ml tf = z at s2 hx
  clear s1
  have hU : RUD (ml, mk, mp, mv, ru, cl, aq, mt, nn, dd, fi, sg, lf, rf, ce, sk, sv, yop) (0, 0, nn, dd, fi, sg, lf, rf, ce) (AT ml tf) z.2.1 0 0 bk2 bw2 y :=
    ⟨121, 0, 0, mk, mp, mv, 0, 0, sk, sv, yop, hm, rfl, by decide, by decide, ⟨by decide, fun j hj => absurd hj (Nat.not_lt_zero _)⟩, by decide, ⟨rfl, fun k hk => absurd hk (Nat.not_lt_zero _)⟩, fun _ _ => ⟨rfl, rfl⟩⟩
  have hD : DRD (0, 0, nn, dd, fi, sg, lf, rf, ce) 0 0 0 bn2 bd2 bc2 bs2 bl2 br2 bk2 := ⟨by show (0 : Int32).toInt = _; decide, by show (0 : Int32).toInt = _; decide, ⟨fun q hq => absurd hq (Nat.not_lt_zero _), fun p q hp => absurd hp (Nat.not_lt_zero _)⟩, ⟨fun k hk => absurd hk (Nat.not_lt_zero _), rfl⟩, rfl, by decide, by decide⟩
  have S := tks_l (C := (ml, mk, mp, mv, ru, cl, aq, mt, nn, dd, fi, sg, lf, rf, ce, sk, sv, yop)) s2 wk wp ww ml tf bn2 bd2 bc2 bs2 bl2 br2 bk2 bw2 14 0 0 0 0 0 0 0 0 0 bn2 bd2 bc2 bs2 bl2 br2 bk2 bw2 _ (by decide) (by decide) (by decide) (by decide) (by decide) (by decide) hU hD ⟨fun _ _ => ⟨rfl, rfl⟩, fun _ _ => rfl, fun _ _ => ⟨rfl, rfl, rfl, rfl⟩⟩ (by decide) (fun _ => rfl)
  generalize f_Reader_takes_L14 wk wp ww ml tf bn2 bd2 bc2 bs2 bl2 br2 bk2 bw2 14 0 0 z.2.1 z.2.2.1 z.2.2.2 0 0 0 bn2 bd2 bc2 bs2 bl2 br2 bk2 bw2 = t at S hx
  obtain ⟨t1, t2, t3, t4, t5⟩ := S
  by_cases ht : t.1 = 0
  · rw [if_pos ht, lt_b] at hx
    obtain ⟨cu, c1, c2, f1, f2, f3, f4, f5, f6, f7, f8, f9, f10⟩ := t4 ht
    have pl : f_Reader_place t.2.1 t.2.2.2.1 = z.2.2.1 cu := by
      unfold f_Reader_place
      rw [lt_b, t2]
      exact (wd_k c1 c2.1).2
    rw [pl] at hx
    subst hx
    refine ⟨f1.symm, f2, Or.inl ⟨rfl, rfl, rfl, rfl, f3, f6, ?_⟩⟩
    rw [f4, f5]
    exact rb_c hB f7 f8 f9 f10
  · rw [if_neg ht] at hx
    obtain ⟨rc', cc', sc', r1, r2, r3, D, A, K, pl, v, w, xd, xo, yk, yv, yo, e, hD', hx', h120, eq, r4⟩ := t5 ht
    obtain ⟨nn', dd', fi', sg', lf', rf', ce', sk', sv', e2, hRB⟩ := tk_rb hD' hx' h120 eq r1 r2
    unfold TA at e
    rw [e2] at e
    subst hx
    subst e
    exact ⟨rfl, rfl, Or.inr ⟨rfl, rfl, rfl, rfl, rfl, rfl, hRB⟩⟩
