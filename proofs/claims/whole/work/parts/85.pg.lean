/-! a rule -/
theorem it_l (nm : Int64) (dr : Int32) (nn : Nat → Int64) (h12 : dr.toInt ≤ 12) : ∀ (n : Nat) (q is : Int32), 0 ≤ q.toInt → q.toInt ≤ dr.toInt → q.toInt + (n : Int) = dr.toInt + 1 → (is = 0 ∧ (∀ j : Nat, (j : Int) < q.toInt → ¬ nn j = nm) ∨ is = 1 ∧ ∃ j : Nat, (j : Int) < dr.toInt ∧ nn j = nm) → (f_Model_isTaken_L5 nm dr nn n q is = 0 ∧ (∀ j : Nat, (j : Int) < dr.toInt → ¬ nn j = nm)) ∨ (¬ f_Model_isTaken_L5 nm dr nn n q is = 0 ∧ ∃ j : Nat, (j : Int) < dr.toInt ∧ nn j = nm) ∨ n = 0 := by
  intro n
  induction n with
  | zero => intro q is _ _ _ _; exact Or.inr (Or.inr rfl)
  | succ n ih =>
    intro q is h0 h1 h2 h3
    rw [f_Model_isTaken_L5_s]
    by_cases c1 : dr ≤ q
    · rw [if_pos c1]
      rw [oi_le] at c1
      rcases h3 with ⟨a, b⟩ | ⟨a, b⟩
      · exact Or.inl ⟨a, fun j hj => b j (by omega)⟩
      · exact Or.inr (Or.inl ⟨by rw [a]; decide, b⟩)
    · rw [if_neg c1]
      rw [oi_le] at c1
      have e : (q + 1).toInt = q.toInt + 1 := oi_addE rfl oi_1 (by omega) (by omega)
      have qn : q.toNatClampNeg = q.toInt.toNat := rfl
      have fin : ∀ is', (is' = 0 ∧ (∀ j : Nat, (j : Int) < (q + 1).toInt → ¬ nn j = nm) ∨ is' = 1 ∧ ∃ j : Nat, (j : Int) < dr.toInt ∧ nn j = nm) → (f_Model_isTaken_L5 nm dr nn n (q + 1) is' = 0 ∧ (∀ j : Nat, (j : Int) < dr.toInt → ¬ nn j = nm)) ∨ (¬ f_Model_isTaken_L5 nm dr nn n (q + 1) is' = 0 ∧ ∃ j : Nat, (j : Int) < dr.toInt ∧ nn j = nm) ∨ n + 1 = 0 := by
        intro is' hi
        rcases ih (q + 1) is' (by omega) (by omega) (by omega) hi with g | g | g
        · exact Or.inl g
        · exact Or.inr (Or.inl g)
        · omega
      rcases h3 with ⟨a, b⟩ | ⟨a, b⟩
      · rw [if_pos a]
        by_cases c2 : lg_cmp (nn q.toNatClampNeg) nm = 0
        · rw [if_pos c2]
          exact fin 1 (Or.inr ⟨rfl, q.toInt.toNat, by omega, lc_z.mp c2⟩)
        · rw [if_neg c2]
          refine fin 0 (Or.inl ⟨rfl, fun j hj => ?_⟩)
          by_cases hj2 : j = q.toInt.toNat
          · rw [hj2]; exact fun e => c2 (lc_z.mpr e)
          · exact b j (by omega)
      · rw [if_neg (by rw [a]; decide)]
        exact fin 1 (Or.inr ⟨rfl, b⟩)
theorem it_w {nm : Int64} {dr : Int32} {nn : Nat → Int64} (h0 : 0 ≤ dr.toInt) (h12 : dr.toInt ≤ 12) : (f_Model_isTaken nm dr nn = 0 ∧ (∀ j : Nat, (j : Int) < dr.toInt → ¬ nn j = nm)) ∨ (¬ f_Model_isTaken nm dr nn = 0 ∧ ∃ j : Nat, (j : Int) < dr.toInt ∧ nn j = nm) := by
  rcases it_l nm dr nn h12 (dr.toInt.toNat + 1) 0 0 (by decide) (by rw [oi_z]; omega) (by rw [oi_z]; omega) (Or.inl ⟨rfl, fun j hj => by rw [oi_z] at hj; omega⟩) with g | g | g
  · exact Or.inl g
  · exact Or.inr g
  · omega
set_option maxHeartbeats 2000000 in
theorem rul {C : CT} {D : DT} {A wk wp : Nat → Int32} {ww : Nat → Int64} (hT : TKN C.1 C.2.2.2.2.2.2.2.1 A wk wp ww) (hP : PD C D) {cu sc cc rc : Nat} {bn bd : Nat → Int64} {bc bs bl br bk : Nat → Int32} {bw : Nat → Int64} {o : OT} {ci rci cci sci : Int32} (hU : RUD C D A wk cu sc bk bw o) (hD : DRD D rc cc sc bn bd bc bs bl br bk) (h4 : 4 * cc ≤ cu) (h0 : wk cu = 0 → rc = 0) (hc : ci.toInt = (cu : Int)) (hrc : rci.toInt = (rc : Int)) (hcc : cci.toInt = (cc : Int)) (hsc : sci.toInt = (sc : Int)) :
    RRS C A wk wp rc o (f_Reader_takesRule ci wk ww rci cci sci bn bd bc bs bl br bk bw) ∧ (¬ (f_Reader_takesRule ci wk ww rci cci sci bn bd bc bs bl br bk bw).1 = 0 → rc < 12) := by
  obtain ⟨n, be, ir, xk, xp, xv, xd, xo, yk, yv, yo, e, hn, hxd, hxo, gw, sl, eq, pu⟩ := hU
  obtain ⟨d1, d2, d3, d4, d5, d6, d7⟩ := hD
  have gl := gw.1
  obtain ⟨K, v', A', w', nx, kr, vv, nxt⟩ := hT.2.2 cu gw.1 gw.2 xv
  obtain ⟨n', rfl⟩ := n_1 hn gw.1
  obtain ⟨f1, f2, f3, f4, f5, f6, f7, f8, f9⟩ := kr_f kr
  have it := it_w (nm := v') (dr := D.1) (nn := D.2.2.1) (by omega) (by omega)
  have c12 : (12 : Int32).toInt = 12 := by decide
  have bad : (wk cu = 3 → f_Model_isTaken v' D.1 D.2.2.1 = 0 → 12 ≤ D.1) → ∃ cu2 : Nat, ci.toInt = (cu2 : Int) ∧ GW wk cu2 ∧ FLD C wp cu2 o := by
    intro g
    rw [s_rbad nx (fun q => by rw [oi_le, oi_z, d1]; have := h0 (f9.mpr q); omega) (fun q1 q2 => g (f2.mpr q1) q2)] at e
    exact ⟨cu, hc, gw, by rw [e]; exact fa_fl hP pu⟩
  unfold f_Reader_takesRule
  simp only [lt_]
  rw [(wd_k hc gl).1, wd_w hc gl]
  by_cases k3 : wk cu = 3
  · rw [if_pos k3]
    have v3 : v' = ww cu := vv (Or.inr k3)
    have bw_ := bf_w (nm := ww cu) (bn := bn) (rc := rci) (by omega)
    by_cases hroom : f_Book_hasRoomFor (ww cu) rci bn = 0
    · rw [if_pos hroom]
      refine ⟨⟨fun _ => bad (fun _ q => ?_), fun q => absurd rfl q⟩, fun q => absurd rfl q⟩
      unfold f_Book_hasRoomFor at hroom
      by_cases g12 : 12 ≤ rci
      · rw [oi_le, c12] at g12 ⊢
        omega
      · rw [if_neg g12] at hroom
        simp only [lt_] at hroom
        by_cases gf : f_Book_find (ww cu) rci bn = -1
        · rw [if_pos gf] at hroom
          exact absurd hroom (by decide)
        · rcases bw_ with ⟨a, -⟩ | ⟨a, b, b2⟩
          · exact absurd a gf
          · rcases it with ⟨-, i2⟩ | ⟨i1, -⟩
            · have hq : ((f_Book_find (ww cu) rci bn).toInt.toNat : Int) < D.1.toInt := by omega
              have := (d3.1 (f_Book_find (ww cu) rci bn).toInt.toNat (by omega)).1
              exact absurd (by rw [← this, v3]; exact b2) (i2 _ hq)
            · exact absurd q i1
    · rw [if_neg hroom]
      have rm : rc < 12 ∧ ∀ q, q < rc → ¬ bn q = ww cu := by
        unfold f_Book_hasRoomFor at hroom
        by_cases g12 : 12 ≤ rci
        · rw [if_pos g12] at hroom
          exact absurd rfl hroom
        · rw [if_neg g12] at hroom
          simp only [lt_] at hroom
          rw [oi_le, c12] at g12
          by_cases gf : f_Book_find (ww cu) rci bn = -1
          · rcases bw_ with ⟨-, b⟩ | ⟨a, -, -⟩
            · exact ⟨by omega, fun q hq => b q (by omega)⟩
            · rw [gf] at a
              exact absurd a (by decide)
          · rw [if_neg gf] at hroom
            exact absurd rfl hroom
      have nt : f_Model_isTaken v' D.1 D.2.2.1 = 0 := by
        rcases it with ⟨i1, -⟩ | ⟨-, j, i2, i3⟩
        · exact i1
        · have hj : j < rc := by omega
          exact absurd (by rw [(d3.1 j hj).1, i3, v3]) (rm.2 j hj)
      obtain ⟨w1, w2⟩ := nxt (by rw [k3]; decide)
      rw [s_rule nx (f2.mp k3) nt (by rw [oi_le, c12, d1]; omega), w1, w2, v3] at e
      have g2 := gw_s hT gw (by rw [k3]; decide) (by rw [k3]; decide)
      have gl2 := g2.1
      obtain ⟨a1, a2⟩ := wd_a hc (by omega)
      obtain ⟨m, rfl⟩ : ∃ m, n' = m + 1 := ⟨n' - 1, by omega⟩
      obtain ⟨K2, v2, A2, w2', nx2, kr2, vv2, nxt2⟩ := hT.2.2 (cu + 1) g2.1 g2.2 (ww cu)
      have k58i := kr_i kr2 (c := 58) (d := 58) (by decide)
      obtain ⟨p1, p2⟩ := wd_p (kd := 58) hT g2 a2 (by decide) (by decide)
      have hPn : PD C (DN D (ww cu)) := pd_n hP d1 rm.1
      have xrn : D.1.toNatClampNeg = rc := by show D.1.toInt.toNat = rc; omega
      have xr1 : (D.1 + 1).toInt = ((rc + 1 : Nat) : Int) := by rw [oi_addE d1 oi_1 (by omega) (by omega)]; omega
      rw [a1]
      by_cases k58 : wk (cu + 1) = 58
      · obtain ⟨e1, e2, e3⟩ := p1 k58
        rw [e1]
        dsimp only
        rw [if_neg (show ¬ (1 : Int32) = 0 by decide)]
        obtain ⟨w3, w4⟩ := nxt2 (by rw [k58]; decide)
        rw [s_col nx2 (k58i.mp k58), w3, w4] at e
        have gl3 := e3.1
        have hPl : PD C (DL (DN D (ww cu)) xd) := pd_l (cc := cc) hPn d2 (by omega)
        have hO : OPD C (DL (DN D (ww cu)) xd) A wk 0 (cu + 1 + 1) 0 1 sc bk bw 0 yo o := ⟨m, _, _, _, xd, xo, yk, yv, yo, e, by omega, hxd, by rw [hxo]; rfl, e3, by omega, by omega, eq, fun j hj => by omega, pu⟩
        have R := cla hT hPl (bs := bs) (bl := bl) (br := br) e2 hsc hcc d2 (by omega) hO
        generalize f_Reader_takesClause (ci + 1 + 1) wk ww cci sci bs bl br bk bw = y at R ⊢
        by_cases hy : y.1 = 0
        · rw [if_pos hy]
          exact ⟨⟨fun _ => R.1 hy, fun q => absurd rfl q⟩, fun q => absurd rfl q⟩
        · rw [if_neg hy]
          refine ⟨?_, fun _ => rm.1⟩
          obtain ⟨cu2, sc2, s1, a, K', X', M, S, bk', bw', p', c2, cc2, t1, t2, t3, t4, t5, t6, t7, t8, t9, t10, t11, t12, t13, t14, t15, t16, B2⟩ := R.2 hy
          rw [t1]
          dsimp only
          have xcn : D.2.1.toNatClampNeg = cc := by show D.2.1.toInt.toNat = cc; omega
          have cs0 : CS cc bs bl br bk D.2.2.2.2.2.1 (upd D.2.2.2.2.2.2.1 D.2.1.toNatClampNeg xd) D.2.2.2.2.2.2.2.1 D.2.2.2.2.2.2.2.2 sc := by
            refine ⟨fun k hk => ?_, d4.2⟩
            obtain ⟨b1, b2, b3⟩ := d4.1 k hk
            refine ⟨b1, ?_, b3⟩
            rw [xcn, u32_n _ _ (by omega)]
            exact b2
          refine rl_l (c0 := cc) hT hrc ci cci sci bs bl br bk bw 121 0 c2 cc2 S cu2 sc2 (cc + 1) _ _ _ bk' bw' (D2 (DL (DN D (ww cu)) xd) K' X') (by decide) (by decide) (by rw [oi_z]; omega) ⟨⟨p', yo, t15, B2⟩, t16, ?_, by omega, by omega, by omega, pd_2 hPl d2 (by omega), fun E hE => ?_⟩ ⟨xr1, rm.1, ?_, ?_, ?_, ?_, d5, rm.2⟩ (by omega) t2 t3 t4
          · show D.2.1.toInt + 1 = ((cc + 1 : Nat) : Int)
            omega
          · have cs := cs_s (L := upd (upd D.2.2.2.2.2.2.1 D.2.1.toNatClampNeg xd) (cc + 1) E) (E := E) cs0 (by rw [xcn, u32_s]; exact hxd) (fun k hk => u32_n _ _ (by omega)) t7 t6 t5 t4 hE t8 t9 (fun j hj => (t12 j hj).1) t13 t14
            show CS (cc + 1) _ _ _ bk' (upd D.2.2.2.2.2.1 D.2.1.toNatClampNeg K') (upd (upd D.2.2.2.2.2.2.1 D.2.1.toNatClampNeg xd) (cc + 1) E) (upd D.2.2.2.2.2.2.2.1 D.2.1.toNatClampNeg X') (upd D.2.2.2.2.2.2.2.2 (cc + 1 - 1) E) sc2
            rw [show cc + 1 - 1 = cc by omega]
            rw [xcn] at cs ⊢
            exact cs
          · show vp_updL D.2.2.1 D.1.toNatClampNeg (ww cu) rc = ww cu
            rw [xrn, up_s]
          · show vp_updL D.2.2.2.1 D.1.toNatClampNeg 0 rc = 0
            rw [xrn, up_s]
          · show (upd D.2.2.2.2.1 D.1.toNatClampNeg D.2.1 rc).toInt = (cc : Int)
            rw [xrn, u32_s]
            exact d2
          · refine ⟨fun q hq => ?_, d3.2⟩
            obtain ⟨b1, b2, b3, b4⟩ := d3.1 q hq
            show bn q = vp_updL D.2.2.1 D.1.toNatClampNeg (ww cu) q ∧ bd q = vp_updL D.2.2.2.1 D.1.toNatClampNeg 0 q ∧ (upd D.2.2.2.2.1 D.1.toNatClampNeg D.2.1 q).toInt = C0 bc q ∧ _
            rw [xrn, up_n _ _ (by omega), up_n _ _ (by omega), u32_n _ _ (by omega)]
            exact ⟨b1, b2, b3, b4⟩
      · rw [p2 k58]
        dsimp only
        rw [if_pos rfl]
        rw [s_cbad nx2 (fun q => k58 (k58i.mpr q))] at e
        refine ⟨⟨fun _ => ⟨cu + 1, a2, g2, ?_⟩, fun q => absurd rfl q⟩, fun q => absurd rfl q⟩
        rw [e]
        exact fa_fl (pd_l (cc := cc) hPn d2 (by omega)) pu
  · rw [if_neg k3]
    exact ⟨⟨fun _ => bad (fun q => absurd q k3), fun q => absurd rfl q⟩, fun q => absurd rfl q⟩
/-! the whole text -/
abbrev TZ : Type := Int32 × Int32 × (Nat → Int32) × (Nat → Int32) × (Nat → Int64) × Int32 × Int32 × Int32 × (Nat → Int64) × (Nat → Int64) × (Nat → Int32) × (Nat → Int32) × (Nat → Int32) × (Nat → Int32) × (Nat → Int32) × (Nat → Int64)
def TRS (C : CT) (wk wp : Nat → Int32) (ww : Nat → Int64) (o : OT) (z : TZ) : Prop := z.2.2.1 = wk ∧ z.2.2.2.1 = wp ∧ z.2.2.2.2.1 = ww ∧
  (z.1 = 0 → ∃ cu2 : Nat, z.2.1.toInt = (cu2 : Int) ∧ GW wk cu2 ∧ FLD C wp cu2 o) ∧
  (¬ z.1 = 0 → ∃ rc cc sc : Nat, z.2.2.2.2.2.1.toInt = (rc : Int) ∧ z.2.2.2.2.2.2.1.toInt = (cc : Int) ∧ z.2.2.2.2.2.2.2.1.toInt = (sc : Int) ∧ FND C rc cc sc z.2.2.2.2.2.2.2.2.1 z.2.2.2.2.2.2.2.2.2.1 z.2.2.2.2.2.2.2.2.2.2.1 z.2.2.2.2.2.2.2.2.2.2.2.1 z.2.2.2.2.2.2.2.2.2.2.2.2.1 z.2.2.2.2.2.2.2.2.2.2.2.2.2.1 z.2.2.2.2.2.2.2.2.2.2.2.2.2.2.1 z.2.2.2.2.2.2.2.2.2.2.2.2.2.2.2 o)
set_option maxHeartbeats 2000000 in
theorem tks_l {C : CT} {A wk wp : Nat → Int32} {ww : Nat → Int64} (hT : TKN C.1 C.2.2.2.2.2.2.2.1 A wk wp ww) {o : OT} (qk qp : Nat → Int32) (qw : Nat → Int64) (tl : Int32) (tf : Nat → Int32) (qn qd : Nat → Int64) (qc qs ql qr qb : Nat → Int32) (qv : Nat → Int64) :
    ∀ (n : Nat) (i ci rci cci sci : Int32) (cu rc cc sc : Nat) (bn bd : Nat → Int64) (bc bs bl br bk : Nat → Int32) (bw : Nat → Int64) (D : DT), i.toInt + (n : Int) = 14 → i.toInt = (rc : Int) → rci.toInt = (rc : Int) → ci.toInt = (cu : Int) → cci.toInt = (cc : Int) → sci.toInt = (sc : Int) → RUD C D A wk cu sc bk bw o → DRD D rc cc sc bn bd bc bs bl br bk → PD C D → 4 * cc ≤ cu → (wk cu = 0 → rc = 0) →
      TRS C wk wp ww o (f_Reader_takes_L14 qk qp qw tl tf qn qd qc qs ql qr qb qv n i ci wk wp ww rci cci sci bn bd bc bs bl br bk bw) := by
  intro n
  induction n with
  | zero =>
    intro i ci rci cci sci cu rc cc sc bn bd bc bs bl br bk bw D h1 h2 h3 h4 h5 h6 hU hD hP h7 h8
    have := hD.2.2.2.2.2.1
    omega
  | succ n ih =>
    intro i ci rci cci sci cu rc cc sc bn bd bc bs bl br bk bw D h1 h2 h3 h4 h5 h6 hU hD hP h7 h8
    have r12 := hD.2.2.2.2.2.1
    obtain ⟨R, R2⟩ := rul hT hP hU hD h7 h8 h4 h3 h5 h6
    rw [f_Reader_takes_L14_s, if_neg (by rw [oi_lt, show (12 : Int32).toInt = 12 by decide]; omega)]
    simp only [lt_]
    generalize f_Reader_takesRule ci wk ww rci cci sci bn bd bc bs bl br bk bw = z at R R2 ⊢
    by_cases hz : z.1 = 0
    · rw [if_pos hz]
      exact ⟨rfl, rfl, rfl, fun _ => R.1 hz, fun q => absurd rfl q⟩
    · rw [if_neg hz]
      have l12 := R2 hz
      obtain ⟨cu2, cc2, sc2, a1, a2, a3, a4, gw, a5, a6, a7, a8⟩ := R.2 hz
      rw [(wd_k a1 gw.1).1]
      by_cases k0 : wk cu2 = 0
      · rw [if_pos k0]
        exact ⟨rfl, rfl, rfl, fun q => absurd q (show ¬ (1 : Int32) = 0 by decide), fun _ => ⟨rc + 1, cc2, sc2, a2, a3, a4, a6 k0⟩⟩
      · rw [if_neg k0]
        obtain ⟨p1, p2⟩ := wd_p (kd := 59) hT gw a1 (by decide) (by decide)
        by_cases k59 : wk cu2 = 59
        · obtain ⟨e1, e2, e3⟩ := p1 k59
          rw [e1]
          dsimp only
          rw [if_neg (show ¬ (1 : Int32) = 0 by decide), (wd_k e2 e3.1).1]
          obtain ⟨D', b1, b2, b3⟩ := a7 k59
          by_cases k0' : wk (cu2 + 1) = 0
          · rw [if_pos k0']
            refine ⟨rfl, rfl, rfl, fun q => absurd q (show ¬ (1 : Int32) = 0 by decide), fun _ => ⟨rc + 1, cc2, sc2, a2, a3, a4, ?_⟩⟩
            obtain ⟨m, be, ir, xk, xp, xv, xd, xo, yk, yv, yo, e, hn, hxd, hxo, gw3, sl, eq, pu⟩ := b1
            obtain ⟨K, v', A', w', nx, kr, vv, nxt⟩ := hT.2.2 (cu2 + 1) gw3.1 gw3.2 xv
            obtain ⟨m', rfl⟩ := n_1 hn gw3.1
            have gl3 := gw3.1
            have xr' := b2.1
            rw [s_rend nx ((kr_i kr (c := 0) (d := 0) (by decide)).mp k0') (by rw [oi_le, oi_z]; omega)] at e
            exact ⟨D', _, _, _, _, _, xd, xo, yk, yv, yo, e, b2, hxd, by omega, eq, by omega⟩
          · rw [if_neg k0']
            have i1 : (i + 1).toInt = i.toInt + 1 := oi_addE rfl oi_1 (by omega) (by omega)
            exact ih (i + 1) _ _ _ _ (cu2 + 1) (rc + 1) cc2 sc2 _ _ _ _ _ _ _ _ D' (by omega) (by omega) a2 e2 a3 a4 b1 b2 b3 (by omega) (fun q => absurd q k0')
        · rw [p2 k59]
          dsimp only
          rw [if_pos rfl]
          exact ⟨rfl, rfl, rfl, fun _ => ⟨cu2, a1, gw, a8 k0 k59⟩, fun q => absurd rfl q⟩
