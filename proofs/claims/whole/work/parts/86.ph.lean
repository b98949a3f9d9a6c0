/-! what take leaves -/
theorem ti_sum {a b : Nat} {x y : Int32} (hx : x.toInt = (a : Int)) (hy : y.toInt = (b : Int)) (h : a + b < 2000) : (x + y).toNatClampNeg = a + b := by
  have : (x + y).toInt = (a : Int) + (b : Int) := oi_addE hx hy (by omega) (by omega)
  show (x + y).toInt.toNat = _
  omega
theorem ti_nat {a : Nat} {x : Int32} (hx : x.toInt = (a : Int)) : x.toNatClampNeg = a := by
  show x.toInt.toNat = a
  omega
theorem tk_199 (dr dc ds : Int32) (nn dd : Nat → Int64) (fi sg lf rf ce sk : Nat → Int32) (sv : Nat → Int64) {N : Nat} (hN : ds.toInt = (N : Int)) (h240 : N ≤ 240) : ∀ (n k : Nat) (q : Int32) (xf : Nat → Int32) (xn xd : Nat → Int64) (xs xl xr xe xk : Nat → Int32) (xv : Nat → Int64), q.toInt = (k : Int) → k ≤ N → n + k = 241 → (∀ j, j < 240 → xk j = sk j ∧ xv j = sv j) → (∀ j, j < k → xk (240 + j) = sk j ∧ xv (240 + j) = sv j) → ∃ xk' xv', f_Model_take_L199 dr dc ds nn dd fi sg lf rf ce sk sv n q xf xn xd xs xl xr xe xk xv = (0, dr, dc, 0, xn, xd, xf, xs, xl, xr, xe, xk', xv') ∧ ∀ j, j < N → xk' (240 + j) = sk j ∧ xv' (240 + j) = sv j := by
  intro n
  induction n with
  | zero => intro k q xf xn xd xs xl xr xe xk xv h1 h2 h3; omega
  | succ n ih =>
    intro k q xf xn xd xs xl xr xe xk xv h1 h2 h3 h4 h5
    rw [f_Model_take_L199_s]
    by_cases c : ds ≤ q
    · rw [if_pos c]
      rw [oi_le] at c
      exact ⟨xk, xv, rfl, fun j hj => h5 j (by omega)⟩
    · rw [if_neg c]
      rw [oi_le] at c
      have a1 := ti_sum (a := 240) (x := 240) (by decide) h1 (by omega)
      have a2 := ti_nat h1
      rw [a1, a2]
      have q1 : (q + 1).toInt = ((k + 1 : Nat) : Int) := by rw [oi_addE h1 oi_1 (by omega) (by omega)]; omega
      refine ih (k + 1) (q + 1) _ _ _ _ _ _ _ _ _ q1 (by omega) (by omega) (fun j hj => ?_) (fun j hj => ?_)
      · rw [u32_n _ _ (by omega), up_n _ _ (by omega)]
        exact h4 j hj
      · by_cases e : j = k
        · rw [e, u32_s, up_s]
          exact h4 k (by omega)
        · rw [u32_n _ _ (by omega), up_n _ _ (by omega)]
          exact h5 j (by omega)
theorem tk_111 (dr dc ds : Int32) (nn dd : Nat → Int64) (fi sg lf rf ce sk : Nat → Int32) (sv : Nat → Int64) {M N : Nat} (hM : dc.toInt = (M : Int)) (h120 : M ≤ 30) (hN : ds.toInt = (N : Int)) (h240 : N ≤ 240) (hlf : ∀ j, j < M → 0 ≤ (lf j).toInt ∧ (lf j).toInt ≤ 1000 ∧ 0 ≤ (rf j).toInt ∧ (rf j).toInt ≤ 1000 ∧ 0 ≤ (ce j).toInt ∧ (ce j).toInt ≤ 1000) : ∀ (n k : Nat) (q : Int32) (xf : Nat → Int32) (xn xd : Nat → Int64) (xs xl xr xe : Nat → Int32), q.toInt = (k : Int) → k ≤ M → n + k = 121 → (∀ j, j < 120 → xs j = sg j ∧ xl j = lf j ∧ xr j = rf j ∧ xe j = ce j) → (∀ j, j < k → xs (120 + j) = sg j ∧ (xl (120 + j)).toInt = (lf j).toInt + 240 ∧ (xr (120 + j)).toInt = (rf j).toInt + 240 ∧ (xe (120 + j)).toInt = (ce j).toInt + 240) → ∃ xs' xl' xr' xe' xk' xv', f_Model_take_L111 dr dc ds nn dd fi sg lf rf ce sk sv n q xf xn xd xs xl xr xe = (0, dr, dc, 0, xn, xd, xf, xs', xl', xr', xe', xk', xv') ∧ (∀ j, j < N → xk' (240 + j) = sk j ∧ xv' (240 + j) = sv j) ∧ ∀ j, j < M → xs' (120 + j) = sg j ∧ (xl' (120 + j)).toInt = (lf j).toInt + 240 ∧ (xr' (120 + j)).toInt = (rf j).toInt + 240 ∧ (xe' (120 + j)).toInt = (ce j).toInt + 240 := by
  intro n
  induction n with
  | zero => intro k q xf xn xd xs xl xr xe h1 h2 h3; omega
  | succ n ih =>
    intro k q xf xn xd xs xl xr xe h1 h2 h3 h4 h5
    rw [f_Model_take_L111_s]
    by_cases c : dc ≤ q
    · rw [if_pos c]
      rw [oi_le] at c
      obtain ⟨xk', xv', e1, e2⟩ := tk_199 dr dc ds nn dd fi sg lf rf ce sk sv hN h240 241 0 0 xf xn xd xs xl xr xe sk sv (by decide) (by omega) (by decide) (fun j _ => ⟨rfl, rfl⟩) (fun j hj => absurd hj (Nat.not_lt_zero _))
      exact ⟨xs, xl, xr, xe, xk', xv', e1, e2, fun j hj => h5 j (by omega)⟩
    · rw [if_neg c]
      rw [oi_le] at c
      have a1 := ti_sum (a := 120) (x := 120) (by decide) h1 (by omega)
      have a2 := ti_nat h1
      rw [a1, a2]
      have q1 : (q + 1).toInt = ((k + 1 : Nat) : Int) := by rw [oi_addE h1 oi_1 (by omega) (by omega)]; omega
      obtain ⟨b1, b2, b3, b4⟩ := h4 k (by omega)
      obtain ⟨g1, g2, g3, g4, g5, g6⟩ := hlf k (by omega)
      refine ih (k + 1) (q + 1) _ _ _ _ _ _ _ q1 (by omega) (by omega) (fun j hj => ?_) (fun j hj => ?_)
      · rw [u32_n _ _ (by omega), u32_n _ _ (by omega), u32_n _ _ (by omega), u32_n _ _ (by omega)]
        exact h4 j hj
      · by_cases e : j = k
        · rw [e, u32_s, u32_s, u32_s, u32_s, b1, b2, b3, b4]
          have s240 : (240 : Int32).toInt = 240 := by decide
          exact ⟨rfl, by rw [oi_addE s240 rfl (by omega) (by omega)]; omega, by rw [oi_addE s240 rfl (by omega) (by omega)]; omega, by rw [oi_addE s240 rfl (by omega) (by omega)]; omega⟩
        · rw [u32_n _ _ (by omega), u32_n _ _ (by omega), u32_n _ _ (by omega), u32_n _ _ (by omega)]
          exact h5 j (by omega)
theorem tk_65 (dr dc ds : Int32) (nn dd : Nat → Int64) (fi sg lf rf ce sk : Nat → Int32) (sv : Nat → Int64) {P : Nat} (hP : dr.toInt = (P : Int)) (h12 : P ≤ 12) (Q : (Int32 × Int32 × Int32 × Int32 × (Nat → Int64) × (Nat → Int64) × (Nat → Int32) × (Nat → Int32) × (Nat → Int32) × (Nat → Int32) × (Nat → Int32) × (Nat → Int32) × (Nat → Int64)) → Prop) (xf : Nat → Int32) (hQ : ∀ xn xd, (∀ j, j < P → xn (12 + j) = nn j ∧ xd (12 + j) = dd j) → Q (f_Model_take_L111 dr dc ds nn dd fi sg lf rf ce sk sv 121 0 xf xn xd sg lf rf ce)) : ∀ (n k : Nat) (q : Int32) (xn xd : Nat → Int64), q.toInt = (k : Int) → k ≤ P → n + k = 13 → (∀ j, j < 12 → xn j = nn j ∧ xd j = dd j) → (∀ j, j < k → xn (12 + j) = nn j ∧ xd (12 + j) = dd j) → Q (f_Model_take_L65 dr dc ds nn dd fi sg lf rf ce sk sv n q xf xn xd) := by
  intro n
  induction n with
  | zero => intro k q xn xd h1 h2 h3; omega
  | succ n ih =>
    intro k q xn xd h1 h2 h3 h4 h5
    rw [f_Model_take_L65_s]
    by_cases c : dr ≤ q
    · rw [if_pos c]
      rw [oi_le] at c
      exact hQ xn xd (fun j hj => h5 j (by omega))
    · rw [if_neg c]
      rw [oi_le] at c
      have a1 := ti_sum (a := 12) (x := 12) (by decide) h1 (by omega)
      have a2 := ti_nat h1
      rw [a1, a2]
      have q1 : (q + 1).toInt = ((k + 1 : Nat) : Int) := by rw [oi_addE h1 oi_1 (by omega) (by omega)]; omega
      refine ih (k + 1) (q + 1) _ _ q1 (by omega) (by omega) (fun j hj => ?_) (fun j hj => ?_)
      · rw [up_n _ _ (by omega), up_n _ _ (by omega)]
        exact h4 j hj
      · by_cases e : j = k
        · rw [e, up_s, up_s]
          exact h4 k (by omega)
        · rw [up_n _ _ (by omega), up_n _ _ (by omega)]
          exact h5 j (by omega)
theorem tk_31 (dr dc ds : Int32) (nn dd : Nat → Int64) (fi sg lf rf ce sk : Nat → Int32) (sv : Nat → Int64) {P : Nat} (hP : dr.toInt = (P : Int)) (h12 : P ≤ 12) (F : Nat → Int32) (hF : ∀ j, j ≤ P → 0 ≤ (F j).toInt ∧ (F j).toInt ≤ 1000) (Q : (Int32 × Int32 × Int32 × Int32 × (Nat → Int64) × (Nat → Int64) × (Nat → Int32) × (Nat → Int32) × (Nat → Int32) × (Nat → Int32) × (Nat → Int32) × (Nat → Int32) × (Nat → Int64)) → Prop) (hQ : ∀ xf, (∀ j, j ≤ P → (xf (13 + j)).toInt = (F j).toInt + 120) → Q (f_Model_take_L65 dr dc ds nn dd fi sg lf rf ce sk sv 13 0 xf nn dd)) : ∀ (n k : Nat) (q : Int32) (xf : Nat → Int32), q.toInt = (k : Int) → k ≤ P + 1 → n + k = 14 → (∀ j, j < 13 → xf j = F j) → (∀ j, j < k → (xf (13 + j)).toInt = (F j).toInt + 120) → Q (f_Model_take_L31 dr dc ds nn dd fi sg lf rf ce sk sv n q xf) := by
  intro n
  induction n with
  | zero =>
    intro k q xf h1 h2 h3
    omega
  | succ n ih =>
    intro k q xf h1 h2 h3 h4 h5
    rw [f_Model_take_L31_s]
    by_cases c : dr < q
    · rw [if_pos c]
      rw [oi_lt] at c
      exact hQ xf (fun j hj => h5 j (by omega))
    · rw [if_neg c]
      rw [oi_lt] at c
      have a1 := ti_sum (a := 13) (x := 13) (by decide) h1 (by omega)
      have a2 := ti_nat h1
      rw [a1, a2, h4 k (by omega)]
      have q1 : (q + 1).toInt = ((k + 1 : Nat) : Int) := by rw [oi_addE h1 oi_1 (by omega) (by omega)]; omega
      obtain ⟨g1, g2⟩ := hF k (by omega)
      refine ih (k + 1) (q + 1) _ q1 (by omega) (by omega) (fun j hj => ?_) (fun j hj => ?_)
      · rw [u32_n _ _ (by omega)]
        exact h4 j hj
      · by_cases e : j = k
        · rw [e, u32_s, oi_addE (show (120 : Int32).toInt = 120 by decide) rfl (by omega) (by omega)]
          omega
        · rw [u32_n _ _ (by omega)]
          exact h5 j (by omega)
theorem cs_pf {bk sk : Nat → Int32} : ∀ (n k p : Nat), (∀ j, k ≤ j → j < k + n → SK (bk j) (sk (240 + j))) → cseg bk n k p = some 1 → pfx sk n (240 + k) p := by
  intro n
  induction n with
  | zero =>
    intro k p _ h
    exact Option.some.inj h
  | succ n ih =>
    intro k p hs h
    have ih' := fun p' => ih (k + 1) p' (fun j h1 h2 => hs j (by omega) (by omega))
    have s := hs k (Nat.le_refl _) (by omega)
    unfold cseg at h
    unfold pfx
    rcases s with ⟨a, b⟩ | ⟨a, b⟩ | ⟨a, b⟩ | ⟨a, b⟩
    · rw [if_pos (Or.inl a)] at h
      rw [if_pos (Or.inl b)]
      by_cases g : p < 19
      · rw [if_pos g] at h
        exact ⟨g, ih' _ h⟩
      · rw [if_neg g] at h
        exact absurd h (by simp)
    · rw [if_pos (Or.inr a)] at h
      rw [if_pos (Or.inr b)]
      by_cases g : p < 19
      · rw [if_pos g] at h
        exact ⟨g, ih' _ h⟩
      · rw [if_neg g] at h
        exact absurd h (by simp)
    · rw [if_neg (by rw [a]; decide), if_pos a] at h
      rw [if_neg (by rw [b]; decide), if_pos b]
      by_cases g : 1 ≤ p
      · rw [if_pos g] at h
        exact ⟨g, ih' _ h⟩
      · rw [if_neg g] at h
        exact absurd h (by simp)
    · have b1 : ¬ (bk k = 2 ∨ bk k = 3) := by rcases b with e | e | e | e <;> rw [e] <;> decide
      have b2 : ¬ bk k = 6 := by rcases b with e | e | e | e <;> rw [e] <;> decide
      have c1 : ¬ (sk (240 + k) = 1 ∨ sk (240 + k) = 2) := by rw [← a]; rcases b with e | e | e | e <;> rw [e] <;> decide
      have c2 : ¬ sk (240 + k) = 78 := by rw [← a]; rcases b with e | e | e | e <;> rw [e] <;> decide
      rw [if_neg b1, if_neg b2] at h
      rw [if_neg c1, if_neg c2]
      by_cases g : 2 ≤ p
      · rw [if_pos g] at h
        exact ⟨g, ih' _ h⟩
      · rw [if_neg g] at h
        exact absurd h (by simp)
set_option maxHeartbeats 2000000 in
/-- the text is right: what both keep of it is alike -/
theorem tk_rb {rc cc sc : Nat} {rci cci : Int32} {bn bd : Nat → Int64} {bc bs bl br bk : Nat → Int32} {bw : Nat → Int64} {D : DT} {xd : Int32} {yk : Nat → Int32} {yv : Nat → Int64} {yo : Nat → Int32} (hD : DRD D rc cc sc bn bd bc bs bl br bk) (hxd : xd.toInt = (sc : Int)) (h120 : sc ≤ 120) (eq : EQP [] sc bk bw sc 0 yk yv yo) (hrc : rci.toInt = (rc : Int)) (hcc : cci.toInt = (cc : Int)) :
    ∃ nn' dd' fi' sg' lf' rf' ce' sk' sv', f_Model_take D.1 D.2.1 xd D.2.2.1 D.2.2.2.1 D.2.2.2.2.1 D.2.2.2.2.2.1 D.2.2.2.2.2.2.1 D.2.2.2.2.2.2.2.1 D.2.2.2.2.2.2.2.2 yk yv = (0, rci, cci, 0, nn', dd', fi', sg', lf', rf', ce', sk', sv') ∧ RB rci cci bn bd bc bs bl br bk bw rci cci nn' dd' fi' sg' lf' rf' ce' sk' sv' := by
  obtain ⟨d1, d2, d3, d4, d5, d6, d7⟩ := hD
  have er : D.1 = rci := i32_ext (d1.trans hrc.symm)
  have ec : D.2.1 = cci := i32_ext (d2.trans hcc.symm)
  have xrn : D.1.toNatClampNeg = rc := ti_nat d1
  unfold f_Model_take
  rw [xrn]
  have Fq : ∀ q, q < rc → (upd D.2.2.2.2.1 rc D.2.1 q).toInt = C0 bc q := fun q hq => by rw [u32_n _ _ (by omega)]; exact (d3.1 q hq).2.2.1
  have Fr : (upd D.2.2.2.2.1 rc D.2.1 rc).toInt = (cc : Int) := by rw [u32_s]; exact d2
  refine tk_31 _ _ _ _ _ _ _ _ _ _ _ _ d1 d6 (upd D.2.2.2.2.1 rc D.2.1) (fun j hj => ?_) (fun w => ∃ nn' dd' fi' sg' lf' rf' ce' sk' sv', w = (0, rci, cci, 0, nn', dd', fi', sg', lf', rf', ce', sk', sv') ∧ RB rci cci bn bd bc bs bl br bk bw rci cci nn' dd' fi' sg' lf' rf' ce' sk' sv') (fun xf hxf => ?_) 14 0 0 _ (by decide) (by omega) (by decide) (fun _ _ => rfl) (fun j hj => absurd hj (Nat.not_lt_zero _))
  · rcases Nat.lt_or_eq_of_le hj with q | q
    · rw [Fq j q]
      obtain ⟨-, -, -, a, b, e⟩ := d3.1 j q
      omega
    · rw [q, Fr]
      omega
  · refine tk_65 _ _ _ _ _ _ _ _ _ _ _ _ d1 d6 (fun w => ∃ nn' dd' fi' sg' lf' rf' ce' sk' sv', w = (0, rci, cci, 0, nn', dd', fi', sg', lf', rf', ce', sk', sv') ∧ RB rci cci bn bd bc bs bl br bk bw rci cci nn' dd' fi' sg' lf' rf' ce' sk' sv') xf (fun xn xd' hn => ?_) 13 0 0 _ _ (by decide) (by omega) (by decide) (fun _ _ => ⟨rfl, rfl⟩) (fun j hj => absurd hj (Nat.not_lt_zero _))
    obtain ⟨xs', xl', xr', xe', xk', xv', e1, e2, e3⟩ := tk_111 D.1 D.2.1 xd D.2.2.1 D.2.2.2.1 D.2.2.2.2.1 D.2.2.2.2.2.1 D.2.2.2.2.2.2.1 D.2.2.2.2.2.2.2.1 D.2.2.2.2.2.2.2.2 yk yv d2 d7 hxd (by omega) (fun j hj => by
      obtain ⟨b1, b2, b3, b4, b5, b6, b7, b8, b9, b10⟩ := d4.1 j hj
      omega) 121 0 0 xf xn xd' D.2.2.2.2.2.1 D.2.2.2.2.2.2.1 D.2.2.2.2.2.2.2.1 D.2.2.2.2.2.2.2.2 (by decide) (by omega) (by decide) (fun _ _ => ⟨rfl, rfl, rfl, rfl⟩) (fun j hj => absurd hj (Nat.not_lt_zero _))
    refine ⟨xn, xd', xf, xs', xl', xr', xe', xk', xv', by rw [e1, er, ec], rfl, rfl, by omega, by omega, by omega, by omega, fun q hq => ?_, fun p q hp hq => d3.2 p q (by omega) (by omega), (sc : Int), fun k hk => ?_, fun k hk => ?_⟩
    · have hq' : q < rc := by omega
      obtain ⟨a1, a2, a3, a4, a5, a6⟩ := d3.1 q hq'
      obtain ⟨n1, n2⟩ := hn q hq'
      refine ⟨by rw [n1]; exact a1, by rw [n2]; exact a2, by rw [hxf q (by omega), Fq q hq'], ?_, a4, a5, by omega⟩
      rw [show 14 + q = 13 + (q + 1) by omega, hxf (q + 1) (by omega)]
      rcases Nat.lt_or_eq_of_le (show q + 1 ≤ rc by omega) with g | g
      · rw [Fq (q + 1) g]
        unfold C0
        rw [if_neg (by omega), show q + 1 - 1 = q by omega]
      · rw [g, Fr]
        have := d5
        unfold C0 at this
        rw [← g, if_neg (by omega), show q + 1 - 1 = q by omega] at this
        omega
    · have hk' : k < sc := by omega
      obtain ⟨s1, s2⟩ := eq.2 k hk'
      rw [(e2 k hk').1, (e2 k hk').2]
      exact ⟨s1, s2⟩
    · have hk' : k < cc := by omega
      obtain ⟨b1, b2, b3, b4, b5, b6, b7, b8, b9, b10⟩ := d4.1 k hk'
      obtain ⟨m1, m2, m3, m4⟩ := e3 k hk'
      have sks : ∀ j, j < sc → SK (bk j) (xk' (240 + j)) := fun j hj => by rw [(e2 j hj).1]; exact (eq.2 j hj).1
      refine ⟨⟨by omega, by rw [m1]; exact b1, by rw [m2, b2], by rw [m3, b3], by rw [m4, b4], b5, b6, b7, by omega, ?_, ?_⟩, b8⟩
      · have v := b9.2 0 (by decide)
        rw [show ((bl k).toInt - SB0 br k).toNat = (bl k).toInt.toNat - (SB0 br k).toNat by omega]
        exact cs_pf _ _ _ (fun j h1 h2 => sks j (by omega)) v
      · have v := b10.2 0 (by decide)
        rw [show ((br k).toInt - (bl k).toInt).toNat = (br k).toInt.toNat - (bl k).toInt.toNat by omega]
        exact cs_pf _ _ _ (fun j h1 h2 => sks j (by omega)) v
