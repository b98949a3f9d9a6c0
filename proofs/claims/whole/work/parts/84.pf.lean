/-! the end of a rule -/
abbrev RZ : Type := Int32 × Int32 × Int32 × Int32 × Int32 × (Nat → Int64) × (Nat → Int64) × (Nat → Int32) × (Nat → Int32) × (Nat → Int32) × (Nat → Int32) × (Nat → Int32) × (Nat → Int64)
def RRS (C : CT) (A wk wp : Nat → Int32) (rc : Nat) (o : OT) (z : RZ) : Prop :=
  (z.1 = 0 → ∃ cu2 : Nat, z.2.1.toInt = (cu2 : Int) ∧ GW wk cu2 ∧ FLD C wp cu2 o) ∧
  (¬ z.1 = 0 → ∃ cu2 cc2 sc2 : Nat, z.2.1.toInt = (cu2 : Int) ∧ z.2.2.1.toInt = ((rc + 1 : Nat) : Int) ∧ z.2.2.2.1.toInt = (cc2 : Int) ∧ z.2.2.2.2.1.toInt = (sc2 : Int) ∧ ARD C A wk wp cu2 (rc + 1) cc2 sc2 z.2.2.2.2.2.1 z.2.2.2.2.2.2.1 z.2.2.2.2.2.2.2.1 z.2.2.2.2.2.2.2.2.1 z.2.2.2.2.2.2.2.2.2.1 z.2.2.2.2.2.2.2.2.2.2.1 z.2.2.2.2.2.2.2.2.2.2.2.1 z.2.2.2.2.2.2.2.2.2.2.2.2 o)
set_option maxHeartbeats 1000000 in
theorem rl_end {C : CT} {D : DT} {A wk wp : Nat → Int32} {ww : Nat → Int64} (hT : TKN C.1 C.2.2.2.2.2.2.2.1 A wk wp ww) {cu sc cc rc c0 : Nat} {bn bd : Nat → Int64} {bc bs bl br bk : Nat → Int32} {bw : Nat → Int64} {nm : Int64} {o : OT} {ci rci cci sci : Int32} (h : LH C D A wk cu sc cc bs bl br bk bw o) (hr : RI D rc c0 nm bn bd bc) (hl : c0 < cc) (k33 : ¬ wk cu = 33) (hc : ci.toInt = (cu : Int)) (hrc : rci.toInt = (rc : Int)) (hcc : cci.toInt = (cc : Int)) (hsc : sci.toInt = (sc : Int)) :
    RRS C A wk wp rc o (if (f_Words_pass 64 ci wk).1 = 0 then (1, (f_Words_pass 64 ci wk).2, (f_Book_addRule nm 0 rci cci bn bd bc).1, cci, sci, (f_Book_addRule nm 0 rci cci bn bd bc).2.1, (f_Book_addRule nm 0 rci cci bn bd bc).2.2.1, (f_Book_addRule nm 0 rci cci bn bd bc).2.2.2, bs, bl, br, bk, bw) else (if (f_Words_pass 2 (f_Words_pass 64 ci wk).2 wk).1 = 0 then (0, (f_Words_pass 2 (f_Words_pass 64 ci wk).2 wk).2, rci, cci, sci, bn, bd, bc, bs, bl, br, bk, bw) else (1, (f_Words_pass 2 (f_Words_pass 64 ci wk).2 wk).2, (f_Book_addRule nm (f_Words_worth (f_Words_pass 64 ci wk).2 ww) rci cci bn bd bc).1, cci, sci, (f_Book_addRule nm (f_Words_worth (f_Words_pass 64 ci wk).2 ww) rci cci bn bd bc).2.1, (f_Book_addRule nm (f_Words_worth (f_Words_pass 64 ci wk).2 ww) rci cci bn bd bc).2.2.1, (f_Book_addRule nm (f_Words_worth (f_Words_pass 64 ci wk).2 ww) rci cci bn bd bc).2.2.2, bs, bl, br, bk, bw))) := by
  have h' := h
  obtain ⟨⟨p, Y, hq, B⟩, hs, hx, c1, c30, h4, hP, -⟩ := h
  obtain ⟨r1, r12, r2, r3, r4, r5, r6, r7⟩ := hr
  obtain ⟨gw, sl, -⟩ := bhd_g B
  have gl := gw.1
  obtain ⟨n, be, xk, xp, xv, xd, xo, yk, yv, yo, X, O, yk', yv', e, hn, q1, q2, q3, q4, q5, -, q7, -⟩ := bhd_r hq B
  obtain ⟨K, v', A', w', nx, kr, vv, nxt⟩ := hT.2.2 cu gw.1 gw.2 xv
  have k33i := kr_i kr (c := 33) (d := 33) (by decide)
  have k64i := kr_i kr (c := 64) (d := 64) (by decide)
  have k59i := kr_i kr (c := 59) (d := 59) (by decide)
  have k0i := kr_i kr (c := 0) (d := 0) (by decide)
  obtain ⟨l1, l2, l3, l4⟩ := lh_3 h' q2
  have drd : ∀ (dy : Int64) (D' : DT), (D' = D3 D X ∧ dy = 0) ∨ D' = DY (D3 D X) dy → DRD D' (rc + 1) cc sc (vp_updL bn rc nm) (vp_updL bd rc dy) (upd bc rc cci) bs bl br bk := by
    intro dy D' hD
    have xr1 : (D.1 - 1).toInt = D.1.toInt - 1 := oi_subE rfl oi_1 (by omega) (by omega)
    have xrn : (D.1 - 1).toNatClampNeg = rc := by show (D.1 - 1).toInt.toNat = rc; omega
    rcases hD with ⟨hD, hy⟩ | hD
    · subst hD
      subst hy
      exact ⟨r1, l1, rl_s r5 r2 r3 (fun _ _ => rfl) r4 r6 r7 hcc hl, l2, by rw [c0_s]; exact hcc, by omega, c30⟩
    · subst hD
      refine ⟨r1, l1, rl_s (yd := D.2.2.2.1) (yd' := vp_updL D.2.2.2.1 (D.1 - 1).toNatClampNeg dy) r5 r2 (by rw [xrn, up_s]) (fun q hq' => by rw [xrn, up_n _ _ (by omega)]) r4 r6 r7 hcc hl, l2, by rw [c0_s]; exact hcc, by omega, c30⟩
  obtain ⟨p1, p2⟩ := wd_p (kd := 64) hT gw hc (by decide) (by decide)
  by_cases k64 : wk cu = 64
  · obtain ⟨e1, e2, e3⟩ := p1 k64
    rw [e1]
    dsimp only
    rw [if_neg (show ¬ (1 : Int32) = 0 by decide)]
    obtain ⟨w1, w2⟩ := nxt (by rw [k64]; decide)
    rw [s_at nx rfl (by decide) (k64i.mp k64), q1, w1, w2] at e
    have gl3 := e3.1
    obtain ⟨m, rfl⟩ : ∃ m, n = m + 1 := ⟨n - 1, by omega⟩
    obtain ⟨K2, v2, A2, w2', nx2, kr2, vv2, nxt2⟩ := hT.2.2 (cu + 1) e3.1 e3.2 v'
    have k1i := kr_i kr2 (c := 2) (d := 1) (by decide)
    obtain ⟨p3, p4⟩ := wd_p (kd := 2) hT e3 e2 (by decide) (by decide)
    by_cases k2 : wk (cu + 1) = 2
    · obtain ⟨f1, f2, f3⟩ := p3 k2
      rw [f1, wd_w e2 e3.1]
      dsimp only
      rw [if_neg (show ¬ (1 : Int32) = 0 by decide)]
      obtain ⟨w3, w4⟩ := nxt2 (by rw [k2]; decide)
      have gl4 := f3.1
      rw [s_day nx2 (k1i.mp k2), w3, w4, vv2 (Or.inl k2)] at e
      obtain ⟨m2, rfl⟩ : ∃ m2, m = m2 + 1 := ⟨m - 1, by omega⟩
      obtain ⟨K3, v3, A3, w3', nx3, kr3, vv3, nxt3⟩ := hT.2.2 (cu + 1 + 1) f3.1 f3.2 (ww (cu + 1))
      have k59j := kr_i kr3 (c := 59) (d := 59) (by decide)
      have k0j := kr_i kr3 (c := 0) (d := 0) (by decide)
      obtain ⟨a1, a2⟩ := ar_k (nm := nm) (dy := ww (cu + 1)) (cci := cci) (bn := bn) (bd := bd) (bc := bc) hrc r12
      rw [a1]
      have dd := drd (ww (cu + 1)) (DY (D3 D X) (ww (cu + 1))) (Or.inr rfl)
      refine ⟨fun q => absurd q (show ¬ (1 : Int32) = 0 by decide), fun _ => ⟨cu + 1 + 1, cc, sc, f2, a2, hcc, hsc, f3, by omega, fun g => ?_, fun g => ?_, fun g1 g2 => ?_⟩⟩
      · rw [s_fin nx3 (k0j.mp g)] at e
        exact ⟨DY (D3 D X) (ww (cu + 1)), _, _, _, _, _, X, O, yk', yv', yo, e, dd, q2, by omega, q4, by omega⟩
      · obtain ⟨w5, w6⟩ := nxt3 (by rw [g]; decide)
        rw [s_next nx3 (k59j.mp g), w5, w6] at e
        have g3 := gw_s hT f3 (by rw [g]; decide) (by rw [g]; decide)
        have g3l := g3.1
        exact ⟨DY (D3 D X) (ww (cu + 1)), ⟨m2, _, _, _, _, _, X, O, yk', yv', yo, e, by omega, q2, q3, g3, by omega, q4, q5⟩, dd, pd_y l3 r1 r12⟩
      · rw [s_ebad nx3 (fun q => g2 (k59j.mpr q)) (fun q => g1 (k0j.mpr q))] at e
        rw [e]
        exact fa_fl (pd_y l3 r1 r12) q5
    · rw [p4 k2]
      dsimp only
      rw [if_pos rfl]
      rw [s_dbad nx2 (fun q => k2 (k1i.mpr q))] at e
      refine ⟨fun _ => ⟨cu + 1, e2, e3, ?_⟩, fun q => absurd rfl q⟩
      rw [e]
      exact fa_fl (pd_y l3 r1 r12) q5
  · rw [p2 k64]
    dsimp only
    rw [if_pos rfl]
    obtain ⟨a1, a2⟩ := ar_k (nm := nm) (dy := 0) (cci := cci) (bn := bn) (bd := bd) (bc := bc) hrc r12
    rw [a1]
    have dd := drd 0 (D3 D X) (Or.inl ⟨rfl, rfl⟩)
    refine ⟨fun q => absurd q (show ¬ (1 : Int32) = 0 by decide), fun _ => ⟨cu, cc, sc, hc, a2, hcc, hsc, gw, h4, fun g => ?_, fun g => ?_, fun g1 g2 => ?_⟩⟩
    · rw [s_end nx rfl (by decide) (k0i.mp g), q1] at e
      exact ⟨D3 D X, _, _, _, _, _, X, O, yk', yv', yo, e, dd, q2, by omega, q4, by omega⟩
    · obtain ⟨w1, w2⟩ := nxt (by rw [g]; decide)
      rw [s_semi nx rfl (by decide) (k59i.mp g), q1, w1, w2] at e
      have g3 := gw_s hT gw (by rw [g]; decide) (by rw [g]; decide)
      have g3l := g3.1
      exact ⟨D3 D X, ⟨n, _, _, _, _, _, X, O, yk', yv', yo, e, by omega, q2, q3, g3, by omega, q4, q5⟩, dd, l3⟩
    · exact (bhd_f hT hP B hs (by decide) (fun q => q.2 rfl) (fun _ q => absurd q (by decide)) (fun _ _ => ⟨k33, k64, g2, g1⟩)).2
set_option maxHeartbeats 1000000 in
theorem rl_l {C : CT} {A wk wp : Nat → Int32} {ww : Nat → Int64} (hT : TKN C.1 C.2.2.2.2.2.2.2.1 A wk wp ww) {rc c0 : Nat} {bn bd : Nat → Int64} {bc : Nat → Int32} {nm : Int64} {o : OT} {rci : Int32} (hrc : rci.toInt = (rc : Int)) (pc pcc psc : Int32) (ps pl pr pk : Nat → Int32) (pw : Nat → Int64) :
    ∀ (n : Nat) (i ci cci sci : Int32) (cu sc cc : Nat) (bs bl br bk : Nat → Int32) (bw : Nat → Int64) (D : DT), i.toInt + (n : Int) = 121 → 0 ≤ i.toInt → i.toInt < (cu : Int) → LH C D A wk cu sc cc bs bl br bk bw o → RI D rc c0 nm bn bd bc → c0 < cc → ci.toInt = (cu : Int) → cci.toInt = (cc : Int) → sci.toInt = (sc : Int) →
      RRS C A wk wp rc o (f_Reader_takesRule_L61 pc wk ww rci pcc psc bn bd bc ps pl pr pk pw n i nm ci cci sci bs bl br bk bw) := by
  intro n
  induction n with
  | zero =>
    intro i ci cci sci cu sc cc bs bl br bk bw D h1 h2 h3 h hr hl hc hcc hsc
    obtain ⟨⟨p, Y, hq, B⟩, -⟩ := h
    have := (bhd_g B).1.1
    omega
  | succ n ih =>
    intro i ci cci sci cu sc cc bs bl br bk bw D h1 h2 h3 h hr hl hc hcc hsc
    have h' := h
    obtain ⟨⟨p, Y, hq, B⟩, hs, hx, c1, c30, h4, hP, hcs⟩ := h
    obtain ⟨gw, sl, -⟩ := bhd_g B
    have gl := gw.1
    rw [f_Reader_takesRule_L61_s, if_neg (by rw [oi_le, c120]; omega)]
    simp only [lt_]
    rw [(wd_k hc gl).1]
    by_cases k33 : wk cu = 33
    · rw [if_pos k33]
      obtain ⟨n', be, xk, xp, xv, xd, xo, yk, yv, yo, X, O, yk', yv', e, hn, q1, q2, q3, q4, q5, -, q7, -⟩ := bhd_r hq B
      obtain ⟨K, v', A', w', nx, kr, vv, nxt⟩ := hT.2.2 cu gw.1 gw.2 xv
      obtain ⟨w1, w2⟩ := nxt (by rw [k33]; decide)
      rw [s_exc nx rfl (by decide) ((kr_i kr (c := 33) (d := 33) (by decide)).mp k33), q1, w1, w2] at e
      have g2 := gw_s hT gw (by rw [k33]; decide) (by rw [k33]; decide)
      have gl2 := g2.1
      obtain ⟨a1, a2⟩ := wd_a hc (by omega)
      obtain ⟨l1, l2, l3, l4⟩ := lh_3 h' q2
      have hO : OPD C (D3 D X) A wk 0 (cu + 1) 0 1 sc bk bw 0 Y o := ⟨n', _, _, _, X, O, yk', yv', yo, e, by omega, q2, by rw [q3]; rfl, g2, by omega, by omega, q4, fun j hj => by omega, q5⟩
      have R := cla hT l3 (bs := bs) (bl := bl) (br := br) a2 hsc hcc l1 (by omega) hO
      rw [a1]
      generalize f_Reader_takesClause (ci + 1) wk ww cci sci bs bl br bk bw = z at R ⊢
      by_cases hz : z.1 = 0
      · rw [if_pos hz]
        exact ⟨fun _ => R.1 hz, fun q => absurd rfl q⟩
      · rw [if_neg hz]
        obtain ⟨cu2, sc2, s1, a, K', X', M, S, bk', bw', p', c2, cc2, t1, t2, t3, t4, t5, t6, t7, t8, t9, t10, t11, t12, t13, t14, t15, t16, B2⟩ := R.2 hz
        rw [t1]
        dsimp only
        have i1 : (i + 1).toInt = i.toInt + 1 := oi_addE rfl oi_1 (by omega) (by omega)
        have xcn : (D.2.1 + 1).toNatClampNeg = cc := by
          have : (D.2.1 + 1).toInt = D.2.1.toInt + 1 := oi_addE rfl oi_1 (by omega) (by omega)
          show (D.2.1 + 1).toInt.toNat = cc
          omega
        refine ih (i + 1) c2 cc2 S cu2 sc2 (cc + 1) _ _ _ bk' bw' (D2 (D3 D X) K' X') (by omega) (by omega) (by omega) ⟨⟨p', Y, t15, B2⟩, t16, ?_, by omega, by omega, by omega, pd_2 l3 l1 (by omega), fun E hE => ?_⟩ hr (by omega) t2 t3 t4
        · show pr_xc (D3 D X) + 1 = ((cc + 1 : Nat) : Int)
          rw [l1]
          omega
        · have cs := cs_s (L := upd (pr_yl (D3 D X)) (cc + 1) E) (E := E) l2 l4 (fun k hk => u32_n _ _ (by omega)) t7 t6 t5 t4 hE t8 t9 (fun j hj => (t12 j hj).1) t13 t14
          show CS (cc + 1) _ _ _ bk' (upd (pr_ys (D3 D X)) (D.2.1 + 1).toNatClampNeg K') (upd (pr_yl (D3 D X)) (cc + 1) E) (upd (pr_yr (D3 D X)) (D.2.1 + 1).toNatClampNeg X') (upd (pr_ye (D3 D X)) (cc + 1 - 1) E) sc2
          rw [xcn, show cc + 1 - 1 = cc by omega]
          exact cs
    · rw [if_neg k33]
      exact rl_end hT h' hr hl k33 hc hrc hcc hsc
