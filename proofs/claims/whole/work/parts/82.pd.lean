/-! clauses -/
theorem bhd_r {C : CT} {D : DT} {A wk : Nat → Int32} {ir : Int32} {cu : Nat} {p : List Int32} {sc : Nat} {bk : Nat → Int32} {bw : Nat → Int64} {Y : Nat → Int32} {o : OT} (hq : QS p) (B : BHD C D A wk ir cu 0 p sc bk bw 0 Y o) : ∃ (n : Nat) (be xk xp : Int32) (xv : Int64) (xd xo : Int32) (yk : Nat → Int32) (yv : Nat → Int64) (yo : Nat → Int32) (X O : Int32) (yk' : Nat → Int32) (yv' : Nat → Int64), o = LR C (n + 1) 3 0 be ir (A cu) xk xp xv (nI cu) D xd xo yk yv yo ∧ n + 1 + cu = 121 ∧ f_Model_reduce 1 xd xo yk yv yo = (X, O, yk', yv') ∧ X.toInt = (sc : Int) ∧ O.toInt = 0 ∧ EQP [] sc bk bw sc 0 yk' yv' yo ∧ PU C yk' yv' ∧ GW wk cu ∧ sc ≤ cu ∧ PU C yk yv := by
  obtain ⟨n, x, be, xk, xp, xv, xd, xo, yk, yv, yo, e, hn, hxd, hxo, gw, sl, bl_, eq, fr, pu⟩ := B
  obtain ⟨n', rfl⟩ := n_1 hn gw.1
  have xs := eqp_s p x (0 + p.length) yk yv eq
  have gl := gw.1
  obtain ⟨X, O, yk', yv', r1, r2, r3, r4, r5⟩ := rd_all (le := 1) p xd xo yk yv (by rw [show xd.toInt.toNat = x by omega, show xo.toInt.toNat = 0 + p.length by omega]; exact eq) (by omega) (by omega) (by omega) hq (by left; omega)
  exact ⟨n', be, xk, xp, xv, xd, xo, yk, yv, yo, X, O, yk', yv', e, hn, r1, by omega, by omega, ⟨rfl, fun k hk => r4.2 k (by omega)⟩, fun j hj => by rw [(r5 j hj).1, (r5 j hj).2]; exact pu j hj, gw, sl, pu⟩
theorem kr_sgn {a b : Int32} (h : KR a b) (g : ¬ f_Reader_compares a = 0) : SGN a b ∧ ¬ a = 0 ∧ ¬ a = 1 := by
  have k1 := kr_i h (c := 60) (d := 60) (by decide)
  have k2 := kr_i h (c := 4) (d := 316) (by decide)
  have k3 := kr_i h (c := 61) (d := 61) (by decide)
  have k4 := kr_i h (c := 5) (d := 318) (by decide)
  have k5 := kr_i h (c := 62) (d := 62) (by decide)
  unfold f_Reader_compares at g
  by_cases g1 : a = 60
  · exact ⟨Or.inr (Or.inr (Or.inl ⟨g1, k1.mp g1⟩)), by rw [g1]; decide, by rw [g1]; decide⟩
  · rw [if_neg g1] at g
    by_cases g2 : a = 4
    · exact ⟨Or.inl ⟨g2, k2.mp g2⟩, by rw [g2]; decide, by rw [g2]; decide⟩
    · rw [if_neg g2] at g
      by_cases g3 : a = 61
      · exact ⟨Or.inr (Or.inr (Or.inr (Or.inl ⟨g3, k3.mp g3⟩))), by rw [g3]; decide, by rw [g3]; decide⟩
      · rw [if_neg g3] at g
        by_cases g4 : a = 5
        · exact ⟨Or.inr (Or.inl ⟨g4, k4.mp g4⟩), by rw [g4]; decide, by rw [g4]; decide⟩
        · rw [if_neg g4] at g
          by_cases g5 : a = 62
          · exact ⟨Or.inr (Or.inr (Or.inr (Or.inr ⟨g5, k5.mp g5⟩))), by rw [g5]; decide, by rw [g5]; decide⟩
          · rw [if_neg g5] at g
            exact absurd rfl g
/-- a clause that was begun: the drafts of its sign and of where its right side begins -/
def D2 (D : DT) (K X : Int32) : DT := (D.1, D.2.1, D.2.2.1, D.2.2.2.1, D.2.2.2.2.1, upd D.2.2.2.2.2.1 D.2.1.toNatClampNeg K, D.2.2.2.2.2.2.1, upd D.2.2.2.2.2.2.2.1 D.2.1.toNatClampNeg X, D.2.2.2.2.2.2.2.2)
theorem pd_2 {C : CT} {D : DT} {K X : Int32} {cc : Nat} (h : PD C D) (hx : D.2.1.toInt = (cc : Int)) (hl : cc < 120) : PD C (D2 D K X) := by
  have e : D.2.1.toNatClampNeg = cc := by show D.2.1.toInt.toNat = cc; omega
  refine ⟨h.1, h.2.1, fun j hj => ?_⟩
  obtain ⟨h1, h2, h3, h4⟩ := h.2.2 j hj
  refine ⟨?_, h2, ?_, h4⟩
  · show upd D.2.2.2.2.2.1 D.2.1.toNatClampNeg K j = _
    rw [e, u32_n _ _ (by omega)]
    exact h1
  · show upd D.2.2.2.2.2.2.2.1 D.2.1.toNatClampNeg X j = _
    rw [e, u32_n _ _ (by omega)]
    exact h3
set_option maxHeartbeats 1000000 in
theorem cla {C : CT} {D : DT} {A wk wp : Nat → Int32} {ww : Nat → Int64} (hT : TKN C.1 C.2.2.2.2.2.2.2.1 A wk wp ww) (hP : PD C D) {c sci cci : Int32} {cu sc cc : Nat} {bs bl br bk : Nat → Int32} {bw : Nat → Int64} {Y : Nat → Int32} {o : OT} (hc : c.toInt = (cu : Int)) (hs : sci.toInt = (sc : Int)) (hcc : cci.toInt = (cc : Int)) (hx : D.2.1.toInt = (cc : Int)) (h4 : 4 * cc + 1 ≤ cu) (hO : OPD C D A wk 0 cu 0 1 sc bk bw 0 Y o) :
    ((f_Reader_takesClause c wk ww cci sci bs bl br bk bw).1 = 0 → ∃ cu2 : Nat, (f_Reader_takesClause c wk ww cci sci bs bl br bk bw).2.1.toInt = (cu2 : Int) ∧ GW wk cu2 ∧ FLD C wp cu2 o) ∧
    (¬ (f_Reader_takesClause c wk ww cci sci bs bl br bk bw).1 = 0 → ∃ (cu2 sc2 s1 : Nat) (a K X M S : Int32) (bk' : Nat → Int32) (bw' : Nat → Int64) (p : List Int32) (c2 cc2 : Int32), f_Reader_takesClause c wk ww cci sci bs bl br bk bw = (1, c2, cc2, S, upd bs cc a, upd bl cc M, upd br cc S, bk', bw') ∧ c2.toInt = (cu2 : Int) ∧ cc2.toInt = ((cc + 1 : Nat) : Int) ∧ S.toInt = (sc2 : Int) ∧ M.toInt = (s1 : Int) ∧ X.toInt = (s1 : Int) ∧ SGN a K ∧ sc < s1 ∧ s1 < sc2 ∧ cu + 3 ≤ cu2 ∧ cc < 30 ∧ (∀ j, j < sc → bk' j = bk j ∧ bw' j = bw j) ∧ VAL bk' sc s1 19 ∧ VAL bk' s1 sc2 19 ∧ QS p ∧ NS wk cu2 ∧ BHD C (D2 D K X) A wk 1 cu2 0 p sc2 bk' bw' 0 Y o) := by
  have R := side0 hT hP hc hs hO
  unfold f_Reader_takesClause
  simp only [lt_]
  generalize f_side0 c wk ww sci bk bw = z at R ⊢
  by_cases hz : z.1 = 0
  · rw [if_pos hz]
    exact ⟨fun _ => R.1 hz, fun q => absurd rfl q⟩
  · rw [if_neg hz]
    obtain ⟨cu1, s1, p, r1, r2, r3, r4, r5, r6, r7, r8, r9, B⟩ := R.2 hz
    obtain ⟨gw1, sl1, -⟩ := bhd_g B
    rw [(wd_k r1 gw1.1).1]
    by_cases hcmp : f_Reader_compares (wk cu1) = 0
    · rw [if_pos hcmp]
      refine ⟨fun _ => ⟨cu1, r1, bhd_f hT hP B r9 (by decide) (fun q => q.2 rfl) (fun _ _ => hcmp) (fun _ q => absurd rfl q)⟩, fun q => absurd rfl q⟩
    · rw [if_neg hcmp]
      obtain ⟨n, be, xk, xp, xv, xd, xo, yk, yv, yo, X, O, yk', yv', e, hn, q1, q2, q3, q4, q5, -, q7, -⟩ := bhd_r r8 B
      obtain ⟨K, v', A', w', nx, kr, vv, nxt⟩ := hT.2.2 cu1 gw1.1 gw1.2 xv
      obtain ⟨g1, g2, g3⟩ := kr_sgn kr hcmp
      obtain ⟨f1, f2, f3, f4, f5, f6, f7, f8, f9⟩ := kr_f kr
      obtain ⟨n1, n2, n3, n4⟩ := r9
      obtain ⟨w1, w2⟩ := nxt g2
      have gw2 := gw_s hT gw1 g2 g3
      have gl2 := gw2.1
      obtain ⟨a1, a2⟩ := wd_a r1 (by omega)
      rw [s_cmp nx rfl rfl (fun q => n1 (f6.mpr q)) (fun q => n2 (f7.mpr q)) (fun q => n3 (f8.mpr q)) (fun q => n4 (f4.mpr q)) (fun q => hcmp ((kr_cmp kr).mpr q)), q1, w1, w2] at e
      have hcc30 : cc < 30 := by
        have := r3
        omega
      have hO2 : OPD C (D2 D K X) A wk 1 (cu1 + 1) 0 1 s1 z.2.2.2.1 z.2.2.2.2 0 Y o :=
        ⟨n, K, wp cu1, v', X, O, yk', yv', yo, e, by omega, q2, by rw [q3]; rfl, gw2, by omega, by omega, q4, fun j hj => by omega, q5⟩
      have R2 := side0 hT (pd_2 hP hx (by omega)) a2 r2 hO2
      rw [a1]
      generalize f_side0 (z.2.1 + 1) wk ww z.2.2.1 z.2.2.2.1 z.2.2.2.2 = y at R2 ⊢
      by_cases hy : y.1 = 0
      · rw [if_pos hy]
        exact ⟨fun _ => R2.1 hy, fun q => absurd rfl q⟩
      · rw [if_neg hy]
        obtain ⟨cu2, sc2, p2, t1, t2, t3, t4, t5, t6, t7, t8, t9, B2⟩ := R2.2 hy
        obtain ⟨gw3, sl3, -⟩ := bhd_g B2
        have gl3 := gw3.1
        have cn : cci.toNatClampNeg = cc := by show cci.toInt.toNat = cc; omega
        have hcc' : cc < 30 := by omega
        have ac : f_Book_addClause (wk cu1) z.2.2.1 cci y.2.2.1 bs bl br = (cci + 1, upd bs cc (wk cu1), upd bl cc z.2.2.1, upd br cc y.2.2.1) := by
          unfold f_Book_addClause
          rw [if_neg (by rw [oi_lt, oi_z]; omega), if_neg (by rw [oi_le, show (30 : Int32).toInt = 30 by decide]; omega), if_neg (by rw [oi_le, show (30 : Int32).toInt = 30 by decide]; omega), if_neg (by rw [oi_le, show (30 : Int32).toInt = 30 by decide]; omega), cn]
        have c1 : (cci + 1).toInt = (cc : Int) + 1 := oi_addE hcc oi_1 (by omega) (by omega)
        rw [ac]
        refine ⟨fun q => absurd q (show ¬ (1 : Int32) = 0 by decide), fun _ => ⟨cu2, sc2, s1, wk cu1, K, X, z.2.2.1, y.2.2.1, y.2.2.2.1, y.2.2.2.2, p2, y.2.1, cci + 1, rfl, t1, by rw [c1]; omega, t2, r2, q2, g1, r4, t4, by omega, hcc', fun j hj => ?_, ?_, t7, t8, t9, B2⟩⟩
        · rw [(t6 j (by omega)).1, (t6 j (by omega)).2]
          exact r6 j hj
        · exact val_c r7 (fun j _ hj => (t6 j hj).1)
/-! rules -/
/-- the drafts of both, between two rules -/
def CD (bs bl br bk ys yl yr ye : Nat → Int32) (sc k : Nat) : Prop := SGN (bs k) (ys k) ∧ (yl k).toInt = SB0 br k ∧ (yr k).toInt = (bl k).toInt ∧ (ye k).toInt = (br k).toInt ∧ 0 ≤ SB0 br k ∧ SB0 br k ≤ (bl k).toInt ∧ (bl k).toInt ≤ (br k).toInt ∧ (br k).toInt ≤ (sc : Int) ∧ VAL bk (SB0 br k).toNat (bl k).toInt.toNat 19 ∧ VAL bk (bl k).toInt.toNat (br k).toInt.toNat 19
def RL (rc cc : Nat) (bn bd : Nat → Int64) (bc : Nat → Int32) (yn yd : Nat → Int64) (yf : Nat → Int32) : Prop := (∀ q, q < rc → bn q = yn q ∧ bd q = yd q ∧ (yf q).toInt = C0 bc q ∧ 0 ≤ C0 bc q ∧ C0 bc q < (bc q).toInt ∧ (bc q).toInt ≤ (cc : Int)) ∧ ∀ p q, p < rc → q < rc → bn p = bn q → p = q
/-- all clauses so far -/
def CS (cc : Nat) (bs bl br bk ys yl yr ye : Nat → Int32) (sc : Nat) : Prop := (∀ k, k < cc → CD bs bl br bk ys yl yr ye sc k) ∧ SB0 br cc = (sc : Int)
theorem f0_u {br : Nat → Int32} {cc k : Nat} {S : Int32} (h : k ≤ cc) : SB0 (upd br cc S) k = SB0 br k := by
  unfold SB0
  by_cases g : k = 0
  · rw [if_pos g, if_pos g]
  · rw [if_neg g, if_neg g, u32_n _ _ (by omega)]
theorem f0_s {br : Nat → Int32} {cc : Nat} {S : Int32} : SB0 (upd br cc S) (cc + 1) = S.toInt := by
  unfold SB0
  rw [if_neg (by omega), show cc + 1 - 1 = cc by omega, u32_s]
/-- one clause more -/
theorem cs_s {cc sc s1 sc2 : Nat} {bs bl br bk bk' ys yl yr ye : Nat → Int32} {a K X M S E : Int32} {L : Nat → Int32} (h : CS cc bs bl br bk ys yl yr ye sc) (hl : (yl cc).toInt = (sc : Int)) (hL : ∀ k, k ≤ cc → L k = yl k) (hg : SGN a K) (hX : X.toInt = (s1 : Int)) (hM : M.toInt = (s1 : Int)) (hS : S.toInt = (sc2 : Int)) (hE : E.toInt = (sc2 : Int)) (l1 : sc < s1) (l2 : s1 < sc2) (hf : ∀ j, j < sc → bk' j = bk j) (v1 : VAL bk' sc s1 19) (v2 : VAL bk' s1 sc2 19) : CS (cc + 1) (upd bs cc a) (upd bl cc M) (upd br cc S) bk' (upd ys cc K) L (upd yr cc X) (upd ye cc E) sc2 := by
  obtain ⟨h1, h2⟩ := h
  refine ⟨fun k hk => ?_, by rw [f0_s]; exact hS⟩
  unfold CD
  by_cases q : k = cc
  · subst q
    rw [u32_s, u32_s, u32_s, u32_s, u32_s, u32_s, f0_u (Nat.le_refl _), hL k (Nat.le_refl _), h2, hl, hX, hM, hE, hS]
    refine ⟨hg, rfl, rfl, rfl, by omega, by omega, by omega, by omega, ?_, ?_⟩
    · rw [Int.toNat_natCast, Int.toNat_natCast]; exact v1
    · rw [Int.toNat_natCast, Int.toNat_natCast]; exact v2
  · obtain ⟨c1, c2, c3, c4, c5, c6, c7, c8, c9, c10⟩ := h1 k (by omega)
    rw [u32_n _ _ q, u32_n _ _ q, u32_n _ _ q, u32_n _ _ q, u32_n _ _ q, u32_n _ _ q, f0_u (by omega), hL k (by omega)]
    refine ⟨c1, c2, c3, c4, c5, c6, c7, by omega, val_c c9 (fun j a b => hf j ?_), val_c c10 (fun j a b => hf j ?_)⟩
    · omega
    · omega
