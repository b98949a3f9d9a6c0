/-! trim, count, rule, told, broken, fact, forget -/
theorem one_z {P : Prop} : (1 : Int32) = 0 → P := fun e => absurd e (by decide)
theorem two_z {P : Prop} : (2 : Int32) = 0 → P := fun e => absurd e (by decide)
theorem tr_eq {tl ml : Int32} {tf mt : Nat → Int32} (n : Int32) (h : RT tl tf ml mt) : ∃ x y, x = f_PR_trim n tl ∧ y = f_Model_trim n ml ∧ x.1 = y.2.1 ∧ (x.1 = 0 ∨ x.1 = 1) ∧ (x.1 = 0 → x.2.1 = y.1) ∧ RT x.2.2 tf y.2.2 mt := by
  refine ⟨_, _, rfl, rfl, ?_⟩
  obtain ⟨e, t0, t8, ta⟩ := h
  subst e
  unfold f_PR_trim f_Model_trim
  simp only [lt_]
  have q := in_0 (va := n.toInt64) (vb := 0) (vc := tl.toInt64)
  rw [i64_32, i64_32, i64_0] at q
  by_cases h1 : n < 0
  · rw [if_pos h1]
    rw [oi_lt, oi_z] at h1
    rw [if_pos (q.mpr (Or.inl h1))]
    exact ⟨rfl, Or.inr rfl, one_z, rfl, t0, t8, ta⟩
  · rw [if_neg h1]
    rw [oi_lt, oi_z] at h1
    by_cases h2 : n ≤ tl
    · rw [if_pos h2]
      rw [oi_le] at h2
      rw [if_neg (fun e => by have := q.mp e; omega)]
      have s : (tl - n).toInt = tl.toInt - n.toInt := oi_subE rfl rfl (by omega) (by omega)
      exact ⟨rfl, Or.inl rfl, fun _ => rfl, rfl, by show 0 ≤ (tl - n).toInt; omega, by show (tl - n).toInt ≤ 800; omega, fun j hj => ta j (by have : (j : Int) < (tl - n).toInt := hj; omega)⟩
    · rw [if_neg h2]
      rw [oi_le] at h2
      rw [if_pos (q.mpr (Or.inr (by omega)))]
      exact ⟨rfl, Or.inr rfl, one_z, rfl, t0, t8, ta⟩
theorem co_eq {tl ml rc rx cc cl fz fc : Int32} (w : Int32) (h1 : tl = ml) (h2 : rc = rx) (h3 : cc = cl) (h4 : fz = fc) : ∃ x y, x = f_PR_count w tl fz rc cc ∧ y = f_Model_count w ml rx cl fc ∧ x.1 = y.2 ∧ (x.1 = 0 ∨ x.1 = 1) ∧ (x.1 = 0 → x.2 = y.1) := by
  refine ⟨_, _, rfl, rfl, ?_⟩
  subst h1 h2 h3 h4
  unfold f_PR_count f_Model_count
  simp only [lt_]
  have q := in_0 (va := w.toInt64) (vb := 0) (vc := 3)
  rw [i64_32, i64_0, show (3 : Int64).toInt = 3 by decide] at q
  by_cases g0 : w = 0
  · have e : ¬ f_Model_in w.toInt64 0 3 = 0 := fun e => by have := q.mp e; rw [g0, oi_z] at this; omega
    rw [if_pos g0, if_neg e, if_pos g0]
    exact ⟨rfl, Or.inl rfl, fun _ => rfl⟩
  · rw [if_neg g0]
    by_cases g1 : w = 1
    · have e : ¬ f_Model_in w.toInt64 0 3 = 0 := fun e => by have := q.mp e; rw [g1, oi_1] at this; omega
      rw [if_pos g1, if_neg e, if_neg g0, if_pos g1]
      exact ⟨rfl, Or.inl rfl, fun _ => rfl⟩
    · rw [if_neg g1]
      by_cases g2 : w = 2
      · have e : ¬ f_Model_in w.toInt64 0 3 = 0 := fun e => by have := q.mp e; rw [g2, show (2 : Int32).toInt = 2 by decide] at this; omega
        rw [if_pos g2, if_neg e, if_neg g0, if_neg g1, if_pos g2]
        exact ⟨rfl, Or.inl rfl, fun _ => rfl⟩
      · rw [if_neg g2]
        by_cases g3 : w = 3
        · have e : ¬ f_Model_in w.toInt64 0 3 = 0 := fun e => by have := q.mp e; rw [g3, show (3 : Int32).toInt = 3 by decide] at this; omega
          rw [if_pos g3, if_neg e, if_neg g0, if_neg g1, if_neg g2]
          exact ⟨rfl, Or.inl rfl, fun _ => rfl⟩
        · have e : f_Model_in w.toInt64 0 3 = 0 := q.mpr (by
            have n0 : w.toInt ≠ 0 := fun e => g0 (i32_ext (by rw [oi_z]; exact e))
            have n1 : w.toInt ≠ 1 := fun e => g1 (i32_ext (by rw [oi_1]; exact e))
            have n2 : w.toInt ≠ 2 := fun e => g2 (i32_ext (by rw [show (2 : Int32).toInt = 2 by decide]; exact e))
            have n3 : w.toInt ≠ 3 := fun e => g3 (i32_ext (by rw [show (3 : Int32).toInt = 3 by decide]; exact e))
            omega)
          rw [if_neg g3, if_pos e]
          exact ⟨rfl, Or.inr rfl, one_z⟩
theorem bf_l (nm : Int64) (rc : Int32) (bn : Nat → Int64) (hz : rc.toInt ≤ 12) : ∀ (n : Nat) (i : Int32), 0 ≤ i.toInt → i.toInt + (n : Int) = 13 → (∀ j : Nat, (j : Int) < i.toInt → ¬ bn j = nm) → WH bn rc.toInt nm (f_Book_find_L2 nm rc bn n i) ∨ n = 0 := by
  intro n
  induction n with
  | zero => intro i _ _ _; exact Or.inr rfl
  | succ n ih =>
    intro i h0 h1 h2
    left
    rw [f_Book_find_L2_s]
    by_cases c1 : rc ≤ i
    · rw [if_pos c1]
      rw [oi_le] at c1
      exact Or.inl ⟨rfl, fun j hj => h2 j (by omega)⟩
    · rw [if_neg c1]
      rw [oi_le] at c1
      rw [if_neg (by rw [oi_le, show (12 : Int32).toInt = 12 by decide]; omega)]
      by_cases c2 : lg_cmp (bn i.toNatClampNeg) nm = 0
      · rw [if_pos c2]
        exact Or.inr ⟨h0, by omega, lc_z.mp c2⟩
      · rw [if_neg c2]
        have e : (i + 1).toInt = i.toInt + 1 := oi_addE rfl oi_1 (by omega) (by omega)
        have hh : ∀ j : Nat, (j : Int) < (i + 1).toInt → ¬ bn j = nm := fun j hj => by
          by_cases hj2 : j = i.toInt.toNat
          · rw [hj2]; exact fun e => c2 (lc_z.mpr e)
          · exact h2 j (by omega)
        rcases ih (i + 1) (by omega) (by omega) hh with q | q
        · exact q
        · omega
theorem bf_w {nm : Int64} {rc : Int32} {bn : Nat → Int64} (hz : rc.toInt ≤ 12) : WH bn rc.toInt nm (f_Book_find nm rc bn) := by
  rcases bf_l nm rc bn hz 13 0 (by decide) (by decide) (fun j hj => by rw [oi_z] at hj; omega) with q | q
  · exact q
  · exact absurd q (by decide)
theorem mr_l (nm : Int64) (rx : Int32) (nn : Nat → Int64) (hr : rx.toInt ≤ 12) : ∀ (n : Nat) (k fo : Int32), 0 ≤ k.toInt → k.toInt ≤ rx.toInt → k.toInt + (n : Int) = rx.toInt + 1 → WH (fun j => nn (12 + j)) k.toInt nm fo → ((f_Model_rule_L21 nm rx nn n k fo 0).2 = 0 ∧ WH (fun j => nn (12 + j)) rx.toInt nm (f_Model_rule_L21 nm rx nn n k fo 0).1) ∨ n = 0 := by
  intro n
  induction n with
  | zero => intro k fo _ _ _ _; exact Or.inr rfl
  | succ n ih =>
    intro k fo h0 h1 h2 h3
    left
    rw [f_Model_rule_L21_s]
    by_cases c1 : rx ≤ k
    · rw [if_pos c1, if_pos (by decide)]
      rw [oi_le] at c1
      rw [show rx.toInt = k.toInt by omega]
      exact ⟨rfl, h3⟩
    · rw [if_neg c1, if_pos rfl]
      rw [oi_le] at c1
      have e : (k + 1).toInt = k.toInt + 1 := oi_addE rfl oi_1 (by omega) (by omega)
      have t12 : (12 + k).toNatClampNeg = 12 + k.toInt.toNat := by
        have : (12 + k).toInt = 12 + k.toInt := oi_addE (by decide) rfl (by omega) (by omega)
        show (12 + k).toInt.toNat = _
        omega
      by_cases c2 : lg_cmp (nn (12 + k).toNatClampNeg) nm = 0
      · rw [if_pos c2]
        rw [t12] at c2
        rcases ih (k + 1) k (by omega) (by omega) (by omega) (Or.inr ⟨h0, by omega, lc_z.mp c2⟩) with q | q
        · exact q
        · omega
      · rw [if_neg c2]
        rw [t12] at c2
        have hh : WH (fun j => nn (12 + j)) (k + 1).toInt nm fo := by
          rcases h3 with ⟨a, b⟩ | ⟨a, b, c⟩
          · refine Or.inl ⟨a, fun j hj => ?_⟩
            by_cases hj2 : j = k.toInt.toNat
            · rw [hj2]; exact fun e => c2 (lc_z.mpr e)
            · exact b j (by omega)
          · exact Or.inr ⟨a, by omega, c⟩
        rcases ih (k + 1) fo (by omega) (by omega) (by omega) hh with q | q
        · exact q
        · omega
theorem ru_eq {rc cc : Int32} {bn bd : Nat → Int64} {bc bs bl br bk : Nat → Int32} {bw : Nat → Int64} {rx cl : Int32} {nn dd : Nat → Int64} {fi sg lf rf ce sk : Nat → Int32} {sv : Nat → Int64} (nm : Int64) (hb : RB rc cc bn bd bc bs bl br bk bw rx cl nn dd fi sg lf rf ce sk sv) : ∃ x y, x = f_PR_rule nm rc bn ∧ y = f_Model_rule nm rx nn ∧ x.1 = y.2 ∧ (x.1 = 0 ∨ x.1 = 1) ∧ (x.1 = 0 → x.2 = y.1) := by
  refine ⟨_, _, rfl, rfl, ?_⟩
  obtain ⟨e, -, r0, r12, -, -, hr, hd, -⟩ := hb
  subst e
  unfold f_PR_rule f_Model_rule
  simp only [lt_]
  rw [nm_eq]
  by_cases h : f_Model_isName nm = 0
  · rw [if_pos h, if_pos h, f_Model_rule_L21_s]
    have : (if rc ≤ (0 : Int32) then (if (1 : Int32) ≤ 0 then ((-1 : Int32), (1 : Int32)) else (0, 1)) else (if (1 : Int32) = 0 then (if (lg_cmp (nn (12 + (0 : Int32)).toNatClampNeg) nm) = 0 then (f_Model_rule_L21 nm rc nn rc.toInt.toNat (0 + 1) 0 1) else (f_Model_rule_L21 nm rc nn rc.toInt.toNat (0 + 1) (-1) 1)) else (if (1 : Int32) ≤ 0 then ((-1 : Int32), (1 : Int32)) else (0, 1)))) = (0, 1) := by
      rw [if_neg (show ¬ (1 : Int32) ≤ 0 by decide), if_neg (show ¬ (1 : Int32) = 0 by decide)]
      split <;> rfl
    rw [this]
    exact ⟨rfl, Or.inr rfl, one_z⟩
  · rw [if_neg h, if_neg h]
    rcases mr_l nm rc nn r12 (rc.toInt.toNat + 1) 0 (-1) (by decide) (by rw [oi_z]; omega) (by rw [oi_z]; omega) (Or.inl ⟨rfl, fun j hj => by rw [oi_z] at hj; omega⟩) with q | q
    · refine ⟨q.1.symm, Or.inl rfl, fun _ => ?_⟩
      refine wh_1 hd (bf_w r12) ?_
      rcases q.2 with ⟨a, b⟩ | ⟨a, b, c⟩
      · exact Or.inl ⟨a, fun j hj => by rw [(hr j hj).1]; exact b j hj⟩
      · refine Or.inr ⟨a, b, ?_⟩
        rw [(hr _ (by show (((f_Model_rule_L21 nm rc nn (rc.toInt.toNat + 1) 0 (-1) 0).1.toInt.toNat : Nat) : Int) < _; omega)).1]
        exact c
    · omega
theorem to_eq {as_ ad rc aq da rx : Int32} {an re : Nat → Int64} {sx : Nat → Int32} (nu w : Int32) (ha : RA as_ ad an rc aq da sx re) (er : rc = rx) (r0 : 0 ≤ rc.toInt) (r12 : rc.toInt ≤ 12) : ∃ x y, x = f_PR_told nu w as_ rc an ∧ y = f_Model_told nu w rx aq sx re ∧ x.1 = y.2 ∧ (x.1 = 0 ∨ x.1 = 1 ∨ x.1 = 2) ∧ (x.1 = 0 → x.2 = y.1) := by
  refine ⟨_, _, rfl, rfl, ?_⟩
  obtain ⟨ea, -, han⟩ := ha
  subst er ea
  unfold f_PR_told f_Model_told
  simp only [lt_]
  have q1 : f_Model_in nu.toInt64 0 (rc.toInt64 - 1) = 0 ↔ (nu.toInt < 0 ∨ rc.toInt ≤ nu.toInt) := by
    rw [in_0, i64_32, i64_0, Int64.toInt_sub, i64_32, show (1 : Int64).toInt = 1 by decide, Jvm.Kit.bmod64 (by omega) (by omega)]
    omega
  have q2 : f_Model_in w.toInt64 0 6 = 0 ↔ (w.toInt < 0 ∨ 6 < w.toInt) := by rw [in_0, i64_32, i64_0, show (6 : Int64).toInt = 6 by decide]
  by_cases h1 : nu < 0
  · rw [if_pos h1]
    rw [oi_lt, oi_z] at h1
    rw [if_pos (q1.mpr (Or.inl h1))]
    exact ⟨rfl, Or.inr (Or.inl rfl), one_z⟩
  · rw [if_neg h1]
    rw [oi_lt, oi_z] at h1
    by_cases h2 : nu < rc
    · rw [if_pos h2]
      rw [oi_lt] at h2
      rw [if_neg (show ¬ f_Model_in nu.toInt64 0 (rc.toInt64 - 1) = 0 from fun e => by have := q1.mp e; omega)]
      by_cases h3 : w < 0
      · rw [if_pos h3]
        rw [oi_lt, oi_z] at h3
        rw [if_pos (q2.mpr (Or.inl h3))]
        exact ⟨rfl, Or.inr (Or.inl rfl), one_z⟩
      · rw [if_neg h3]
        rw [oi_lt, oi_z] at h3
        by_cases h4 : w < 7
        · rw [if_pos h4]
          rw [oi_lt, show (7 : Int32).toInt = 7 by decide] at h4
          rw [if_neg (show ¬ f_Model_in w.toInt64 0 6 = 0 from fun e => by have := q2.mp e; omega)]
          by_cases h5 : as_ = 0
          · rw [if_pos h5, if_pos h5]
            exact ⟨rfl, Or.inr (Or.inr rfl), two_z⟩
          · rw [if_neg h5, if_neg h5]
            obtain ⟨a0, a1, a2, a3, a4, a5, a6⟩ := han h5 nu.toInt.toNat (by omega)
            rw [(ka_1 (v := 0) (x := w.toInt.toNat) (by omega) (by omega) (by omega) (by omega)).2]
            by_cases w0 : w = 0
            · rw [if_pos w0]
              refine ⟨rfl, Or.inl rfl, fun _ => ?_⟩
              show an (7 * nu.toInt.toNat + w.toInt.toNat) = _
              rw [w0, show (0 : Int32).toInt.toNat = 0 by decide]
              exact a0
            · rw [if_neg w0]
              refine ⟨rfl, Or.inl rfl, fun _ => ?_⟩
              have wn : w.toInt ≠ 0 := fun e => w0 (i32_ext (by rw [oi_z]; exact e))
              have m6 : (6 * nu).toInt = 6 * nu.toInt := oi_mulE (by decide) rfl (by omega) (by omega)
              have m7 : (6 * nu + w).toInt = 6 * nu.toInt + w.toInt := oi_addE m6 rfl (by omega) (by omega)
              have m8 : (6 * nu + w - 1).toInt = 6 * nu.toInt + w.toInt - 1 := oi_subE m7 oi_1 (by omega) (by omega)
              have m9 : (6 * nu + w - 1).toNatClampNeg = 6 * nu.toInt.toNat + (w.toInt.toNat - 1) := by
                show (6 * nu + w - 1).toInt.toNat = _
                omega
              show an (7 * nu.toInt.toNat + w.toInt.toNat) = re (6 * nu + w - 1).toNatClampNeg
              rw [m9]
              have wc : w.toInt.toNat = 1 ∨ w.toInt.toNat = 2 ∨ w.toInt.toNat = 3 ∨ w.toInt.toNat = 4 ∨ w.toInt.toNat = 5 ∨ w.toInt.toNat = 6 := by omega
              rcases wc with e | e | e | e | e | e <;> rw [e]
              · exact a1
              · exact a2
              · exact a3
              · exact a4
              · exact a5
              · exact a6
        · rw [if_neg h4]
          rw [oi_lt, show (7 : Int32).toInt = 7 by decide] at h4
          rw [if_pos (q2.mpr (Or.inr (by omega)))]
          exact ⟨rfl, Or.inr (Or.inl rfl), one_z⟩
    · rw [if_neg h2]
      rw [oi_lt] at h2
      rw [if_pos (q1.mpr (Or.inr (by omega)))]
      exact ⟨rfl, Or.inr (Or.inl rfl), one_z⟩
theorem br_l {as_ rc aq : Int32} {an re : Nat → Int64} {sx : Nat → Int32} (k : Int32) (han : ∀ q : Nat, (q : Int) < rc.toInt → AN an sx re q) (r12 : rc.toInt ≤ 12) : ∀ (n : Nat) (i b : Int32), 0 ≤ i.toInt → (rc.toInt - i.toInt).toNat = n → (f_PR_broken_L35 k as_ an rc (n + 1) i b).1 = 0 ∧ (f_PR_broken_L35 k as_ an rc (n + 1) i b).2 = (f_Model_broken_L28 k rc aq sx (n + 1) i b 0).1 ∧ (f_Model_broken_L28 k rc aq sx (n + 1) i b 0).2 = 0 := by
  intro n
  induction n with
  | zero =>
    intro i b h0 hn
    rw [f_PR_broken_L35_s, f_Model_broken_L28_s, if_pos (by rw [oi_le]; omega), if_pos (by rw [oi_le]; omega), if_pos (by decide)]
    exact ⟨rfl, rfl, rfl⟩
  | succ n ih =>
    intro i b h0 hn
    rw [f_PR_broken_L35_s, f_Model_broken_L28_s, if_neg (show ¬ rc ≤ i by rw [oi_le]; omega), if_neg (show ¬ rc ≤ i by rw [oi_le]; omega), if_pos (show (0 : Int32) = 0 from rfl)]
    simp only [lt_]
    have i1 : (i + 1).toInt = i.toInt + 1 := oi_addE rfl oi_1 (by omega) (by omega)
    have a := (han i.toInt.toNat (by omega)).1
    rw [(ka_1 (v := 0) (w := 0) (x := 0) h0 (by omega) (by decide) (by decide)).2, Nat.add_zero, a]
    have e : lg_cmp (sx i.toInt.toNat).toInt64 1 = 0 ↔ sx i.toNatClampNeg = 1 := by
      rw [lc_z]
      constructor
      · intro h
        apply i32_ext
        have := congrArg Int64.toInt h
        rw [i64_32] at this
        exact this
      · intro h
        have h' : sx i.toInt.toNat = 1 := h
        rw [h']
        decide
    by_cases h1 : sx i.toNatClampNeg = 1
    · rw [if_pos h1, if_pos (e.mpr h1)]
      by_cases h2 : b = k
      · rw [if_pos h2, if_pos h2]
        exact ⟨rfl, rfl, rfl⟩
      · rw [if_neg h2, if_neg h2]
        exact ih (i + 1) (b + 1) (by omega) (by omega)
    · rw [if_neg h1, if_neg (fun q => h1 (e.mp q))]
      exact ih (i + 1) b (by omega) (by omega)
theorem bx_l (k rc aq : Int32) (sx : Nat → Int32) (n : Nat) (i b xt : Int32) (h : xt = 1 ∨ xt = 2) : f_Model_broken_L28 k rc aq sx (n + 1) i b xt = (0, xt) := by
  rw [f_Model_broken_L28_s]
  rcases h with h | h
  · rw [h, if_neg (show ¬ (1 : Int32) ≤ 0 by decide), if_neg (show ¬ (1 : Int32) = 0 by decide)]
    split <;> rfl
  · rw [h, if_neg (show ¬ (2 : Int32) ≤ 0 by decide), if_neg (show ¬ (2 : Int32) = 0 by decide)]
    split <;> rfl
theorem bk_eq {as_ ad rc aq da rx : Int32} {an re : Nat → Int64} {sx : Nat → Int32} (k : Int32) (ha : RA as_ ad an rc aq da sx re) (er : rc = rx) (r0 : 0 ≤ rc.toInt) (r12 : rc.toInt ≤ 12) : ∃ x y, x = f_PR_broken k as_ an rc ∧ y = f_Model_broken k rx aq sx ∧ x.1 = y.2 ∧ (x.1 = 0 ∨ x.1 = 1 ∨ x.1 = 2) ∧ (x.1 = 0 → x.2 = y.1) := by
  refine ⟨_, _, rfl, rfl, ?_⟩
  obtain ⟨ea, -, han⟩ := ha
  subst er ea
  unfold f_PR_broken f_Model_broken
  by_cases h1 : 0 ≤ k
  · rw [if_pos h1, if_pos h1]
    by_cases h2 : as_ = 0
    · rw [if_pos h2, if_pos h2, bx_l _ _ _ _ _ _ _ _ (Or.inr rfl)]
      exact ⟨rfl, Or.inr (Or.inr rfl), two_z⟩
    · rw [if_neg h2, if_neg h2]
      obtain ⟨a, b, c⟩ := br_l (as_ := as_) (aq := as_) k (han h2) r12 rc.toInt.toNat 0 0 (by decide) (by rw [oi_z]; omega)
      exact ⟨a.trans c.symm, Or.inl a, fun _ => b⟩
  · rw [if_neg h1, if_neg h1, bx_l _ _ _ _ _ _ _ _ (Or.inl rfl)]
    exact ⟨rfl, Or.inr (Or.inl rfl), one_z⟩
/-! fact, forget -/
theorem iv_r {vl : Int32} (h : ¬ f_PR_isValue vl = 0) : -1000000000 ≤ vl.toInt ∧ vl.toInt ≤ 1000000000 := by
  rw [iv_eq rfl, in_0, i64_32, show (-1000000000 : Int64).toInt = -1000000000 by decide, show (1000000000 : Int64).toInt = 1000000000 by decide] at h
  omega
theorem fa_eq {fz fc : Int32} {fn gn gv : Nat → Int64} {fv : Nat → Int32} (nm : Int64) (vl : Int32) (h : RF fz fn fv fc gn gv) : ∃ x y, x = f_PR_fact nm vl fz fn fv ∧ y = f_Model_fact nm vl fc gn gv ∧ x.1 = y.2.1 ∧ (x.1 = 0 ∨ x.1 = 1 ∨ x.1 = 2) ∧ (x.1 = 0 → x.2.1 = y.1) ∧ RF x.2.2.1 x.2.2.2.1 x.2.2.2.2 y.2.2.1 y.2.2.2.1 y.2.2.2.2 := by
  refine ⟨_, _, rfl, rfl, ?_⟩
  obtain ⟨g1, g2⟩ := fd_eq (nm := nm) h.1
  have h' := h
  obtain ⟨⟨e, z0, z40, ha, hd⟩, hn⟩ := h
  subst e
  unfold f_PR_fact f_Model_fact
  simp only [lt_]
  rw [nm_eq, iv_eq rfl, g1]
  generalize f_Model_factOf nm fz gn = z at g2 ⊢
  have c40 : (40 : Int32).toInt = 40 := by decide
  by_cases h1 : f_Model_isName nm = 0
  · rw [if_pos h1, if_pos h1]
    exact ⟨rfl, Or.inr (Or.inl rfl), one_z, h'⟩
  · rw [if_neg h1, if_neg h1]
    by_cases h2 : f_Model_in vl.toInt64 (-1000000000) 1000000000 = 0
    · rw [if_pos h2, if_pos h2]
      exact ⟨rfl, Or.inr (Or.inl rfl), one_z, h'⟩
    · rw [if_neg h2, if_neg h2]
      have vr := iv_r (vl := vl) (by rw [iv_eq rfl]; exact h2)
      rcases g2 with ⟨z1, z2⟩ | ⟨z1, z2, z3⟩
      · rw [if_pos z1, if_pos z1, if_neg (show ¬ 0 ≤ z by rw [z1]; decide), if_neg (show ¬ 0 ≤ z by rw [z1]; decide)]
        by_cases h3 : fz < 40
        · rw [if_pos h3]
          rw [oi_lt, c40] at h3
          rw [if_neg (show ¬ fz = 40 from fun e => by rw [e, c40] at h3; omega)]
          unfold f_Facts_add
          rw [if_neg (by rw [oi_lt, oi_z]; omega), if_neg (by rw [oi_le, c40]; omega), if_neg (by rw [oi_le, c40]; omega)]
          have f1 : (fz + 1).toInt = fz.toInt + 1 := oi_addE rfl oi_1 (by omega) (by omega)
          have fx : fz.toNatClampNeg = fz.toInt.toNat := rfl
          refine ⟨rfl, Or.inl rfl, fun _ => rfl, ⟨rfl, by show 0 ≤ (fz + 1).toInt; omega, by show (fz + 1).toInt ≤ 40; omega, fun j hj => ?_, fun i j hi hj hij => ?_⟩, fun j hj => ?_⟩
          · have hj : (j : Int) < (fz + 1).toInt := hj
            show vp_updL fn fz.toNatClampNeg nm j = vp_updL gn fz.toNatClampNeg nm j ∧ (upd fv fz.toNatClampNeg vl j).toInt64 = vp_updL gv fz.toNatClampNeg vl.toInt64 j
            by_cases hj2 : j = fz.toNatClampNeg
            · rw [hj2, up_s, up_s, up_s, u32_s]
              exact ⟨rfl, rfl⟩
            · rw [up_n _ _ hj2, up_n _ _ hj2, up_n _ _ hj2, u32_n _ _ hj2]
              exact ha j (by omega)
          · have hi : (i : Int) < (fz + 1).toInt := hi
            have hj : (j : Int) < (fz + 1).toInt := hj
            have hij : vp_updL fn fz.toNatClampNeg nm i = vp_updL fn fz.toNatClampNeg nm j := hij
            by_cases hi2 : i = fz.toNatClampNeg <;> by_cases hj2 : j = fz.toNatClampNeg
            · rw [hi2, hj2]
            · rw [hi2, up_s, up_n _ _ hj2] at hij
              exact absurd hij.symm (z2 j (by omega))
            · rw [hj2, up_s, up_n _ _ hi2] at hij
              exact absurd hij (z2 i (by omega))
            · rw [up_n _ _ hi2, up_n _ _ hj2] at hij
              exact hd i j (by omega) (by omega) hij
          · have hj : (j : Int) < (fz + 1).toInt := hj
            show ¬ f_PR_isName (vp_updL fn fz.toNatClampNeg nm j) = 0 ∧ -1000000000 ≤ (upd fv fz.toNatClampNeg vl j).toInt ∧ (upd fv fz.toNatClampNeg vl j).toInt ≤ 1000000000
            by_cases hj2 : j = fz.toNatClampNeg
            · rw [hj2, up_s, u32_s, nm_eq]
              exact ⟨h1, vr.1, vr.2⟩
            · rw [up_n _ _ hj2, u32_n _ _ hj2]
              exact hn j (by omega)
        · rw [if_neg h3]
          rw [oi_lt, c40] at h3
          rw [if_pos (show fz = 40 from i32_ext (by rw [c40]; omega))]
          exact ⟨rfl, Or.inr (Or.inr rfl), two_z, h'⟩
      · have zn : ¬ z = -1 := fun e => by rw [e, show (-1 : Int32).toInt = -1 by decide] at z1; omega
        have zi : ((z.toNatClampNeg : Nat) : Int) < fz.toInt := by show ((z.toInt.toNat : Nat) : Int) < _; omega
        have va : f_Facts_valueAt z fv = fv z.toNatClampNeg := by
          unfold f_Facts_valueAt
          rw [if_neg (by rw [oi_lt, oi_z]; omega), if_neg (by rw [oi_le, c40]; omega)]
        have ch : f_Facts_change z vl fv = upd fv z.toNatClampNeg vl := by
          unfold f_Facts_change
          rw [if_neg (by rw [oi_lt, oi_z]; omega), if_neg (by rw [oi_le, c40]; omega)]
        rw [if_neg zn, if_neg zn, if_pos (show 0 ≤ z by rw [oi_le, oi_z]; omega), if_pos (show 0 ≤ z by rw [oi_le, oi_z]; omega), va, ch]
        refine ⟨rfl, Or.inl rfl, fun _ => (ha _ zi).2, fr_up ⟨rfl, z0, z40, ha, hd⟩ (fun _ _ => rfl) rfl, fun j hj => ⟨(hn j hj).1, ?_⟩⟩
        show -1000000000 ≤ (upd fv z.toNatClampNeg vl j).toInt ∧ (upd fv z.toNatClampNeg vl j).toInt ≤ 1000000000
        by_cases hj2 : j = z.toNatClampNeg
        · rw [hj2, u32_s]; exact vr
        · rw [u32_n _ _ hj2]; exact (hn j hj).2
theorem fo_eq {fz fc : Int32} {fn gn gv : Nat → Int64} {fv : Nat → Int32} (nm : Int64) (h : RF fz fn fv fc gn gv) : ∃ x y, x = f_PR_forget nm fz fn fv ∧ y = f_Model_forget nm fc gn gv ∧ x.1 = y.2.1 ∧ (x.1 = 0 ∨ x.1 = 1) ∧ (x.1 = 0 → x.2.1 = y.1) ∧ RF x.2.2.1 x.2.2.2.1 x.2.2.2.2 y.2.2.1 y.2.2.2.1 y.2.2.2.2 := by
  refine ⟨_, _, rfl, rfl, ?_⟩
  obtain ⟨g1, g2⟩ := fd_eq (nm := nm) h.1
  have h' := h
  obtain ⟨⟨e, z0, z40, ha, hd⟩, hn⟩ := h
  subst e
  unfold f_PR_forget f_Model_forget
  simp only [lt_]
  rw [nm_eq, g1]
  generalize f_Model_factOf nm fz gn = z at g2 ⊢
  have c40 : (40 : Int32).toInt = 40 := by decide
  by_cases h1 : f_Model_isName nm = 0
  · rw [if_pos h1, if_pos h1]
    exact ⟨rfl, Or.inr rfl, one_z, h'⟩
  · rw [if_neg h1, if_neg h1]
    rcases g2 with ⟨z1, z2⟩ | ⟨z1, z2, z3⟩
    · rw [if_pos z1, if_neg (show ¬ 0 ≤ z by rw [z1]; decide)]
      exact ⟨rfl, Or.inl rfl, fun _ => rfl, h'⟩
    · have zn : ¬ z = -1 := fun e => by rw [e, show (-1 : Int32).toInt = -1 by decide] at z1; omega
      have zx : z.toNatClampNeg = z.toInt.toNat := rfl
      have zi : ((z.toNatClampNeg : Nat) : Int) < fz.toInt := by omega
      have f1 : (fz - 1).toInt = fz.toInt - 1 := oi_subE rfl oi_1 (by omega) (by omega)
      have fx : (fz - 1).toNatClampNeg = (fz - 1).toInt.toNat := rfl
      have fl : (((fz - 1).toNatClampNeg : Nat) : Int) < fz.toInt := by omega
      have va : f_Facts_valueAt z fv = fv z.toNatClampNeg := by
        unfold f_Facts_valueAt
        rw [if_neg (by rw [oi_lt, oi_z]; omega), if_neg (by rw [oi_le, c40]; omega)]
      have dr : f_Facts_drop z fz fn fv = (fz - 1, vp_updL fn z.toNatClampNeg (fn (fz - 1).toNatClampNeg), upd fv z.toNatClampNeg (fv (fz - 1).toNatClampNeg)) := by
        unfold f_Facts_drop
        rw [if_neg (by rw [oi_lt, oi_z]; omega), if_neg (by rw [oi_lt]; omega), if_neg (by rw [oi_le, c40]; omega), if_neg (by rw [oi_le, c40]; omega)]
      rw [if_neg zn, if_pos (show 0 ≤ z by rw [oi_le, oi_z]; omega), va, dr]
      refine ⟨rfl, Or.inl rfl, fun _ => (ha _ zi).2, ⟨rfl, by show 0 ≤ (fz - 1).toInt; omega, by show (fz - 1).toInt ≤ 40; omega, fun j hj => ?_, fun i j hi hj hij => ?_⟩, fun j hj => ?_⟩
      · have hj : (j : Int) < (fz - 1).toInt := hj
        show vp_updL fn z.toNatClampNeg (fn (fz - 1).toNatClampNeg) j = vp_updL gn z.toNatClampNeg (gn (fz - 1).toNatClampNeg) j ∧ (upd fv z.toNatClampNeg (fv (fz - 1).toNatClampNeg) j).toInt64 = vp_updL gv z.toNatClampNeg (gv (fz - 1).toNatClampNeg) j
        by_cases hj2 : j = z.toNatClampNeg
        · rw [hj2, up_s, up_s, up_s, u32_s]
          exact ha _ fl
        · rw [up_n _ _ hj2, up_n _ _ hj2, up_n _ _ hj2, u32_n _ _ hj2]
          exact ha j (by omega)
      · have hi : (i : Int) < (fz - 1).toInt := hi
        have hj : (j : Int) < (fz - 1).toInt := hj
        have hij : vp_updL fn z.toNatClampNeg (fn (fz - 1).toNatClampNeg) i = vp_updL fn z.toNatClampNeg (fn (fz - 1).toNatClampNeg) j := hij
        by_cases hi2 : i = z.toNatClampNeg <;> by_cases hj2 : j = z.toNatClampNeg
        · rw [hi2, hj2]
        · rw [hi2, up_s, up_n _ _ hj2] at hij
          have := hd _ _ fl (by omega) hij
          omega
        · rw [hj2, up_s, up_n _ _ hi2] at hij
          have := hd _ _ (by omega) fl hij
          omega
        · rw [up_n _ _ hi2, up_n _ _ hj2] at hij
          exact hd i j (by omega) (by omega) hij
      · have hj : (j : Int) < (fz - 1).toInt := hj
        show ¬ f_PR_isName (vp_updL fn z.toNatClampNeg (fn (fz - 1).toNatClampNeg) j) = 0 ∧ -1000000000 ≤ (upd fv z.toNatClampNeg (fv (fz - 1).toNatClampNeg) j).toInt ∧ (upd fv z.toNatClampNeg (fv (fz - 1).toNatClampNeg) j).toInt ≤ 1000000000
        by_cases hj2 : j = z.toNatClampNeg
        · rw [hj2, up_s, u32_s]
          exact hn _ fl
        · rw [up_n _ _ hj2, u32_n _ _ hj2]
          exact hn j (by omega)
