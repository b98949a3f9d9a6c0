/-! factors, terms, sides -/
theorem bhd_g {C : CT} {D : DT} {A wk : Nat → Int32} {ir : Int32} {cu : Nat} {dp : Int32} {p : List Int32} {sc : Nat} {bk : Nat → Int32} {bw : Nat → Int64} {b : Nat} {Y : Nat → Int32} {o : OT} (B : BHD C D A wk ir cu dp p sc bk bw b Y o) : GW wk cu ∧ sc ≤ cu ∧ b + p.length ≤ cu := by
  obtain ⟨n, x, be, xk, xp, xv, xd, xo, yk, yv, yo, e, hn, hxd, hxo, gw, sl, bl_, eq, fr, pu⟩ := B
  exact ⟨gw, sl, bl_⟩
theorem opd_g {C : CT} {D : DT} {A wk : Nat → Int32} {ir : Int32} {cu : Nat} {dp be : Int32} {sc : Nat} {bk : Nat → Int32} {bw : Nat → Int64} {b : Nat} {Y : Nat → Int32} {o : OT} (B : OPD C D A wk ir cu dp be sc bk bw b Y o) : GW wk cu ∧ sc ≤ cu ∧ b ≤ cu := by
  obtain ⟨n, xk, xp, xv, xd, xo, yk, yv, yo, e, hn, hxd, hxo, gw, sl, bl_, eq, fr, pu⟩ := B
  exact ⟨gw, sl, bl_⟩
theorem kr_cmp {a b : Int32} (h : KR a b) : f_Reader_compares a = 0 ↔ f_Model_compares b = 0 := by
  have k1 := kr_i h (c := 60) (d := 60) (by decide)
  have k2 := kr_i h (c := 4) (d := 316) (by decide)
  have k3 := kr_i h (c := 61) (d := 61) (by decide)
  have k4 := kr_i h (c := 5) (d := 318) (by decide)
  have k5 := kr_i h (c := 62) (d := 62) (by decide)
  unfold f_Reader_compares f_Model_compares
  by_cases g1 : a = 60
  · rw [if_pos g1, if_pos (k1.mp g1)]
  · rw [if_neg g1, if_neg (fun q => g1 (k1.mpr q))]
    by_cases g3 : a = 61
    · have n4 : ¬ a = 4 := by rw [g3]; decide
      rw [if_neg n4, if_pos g3, if_pos (k3.mp g3)]
    · rw [if_neg (show ¬ b = 61 from fun q => g3 (k3.mpr q))]
      by_cases g5 : a = 62
      · have n4 : ¬ a = 4 := by rw [g5]; decide
        have n5 : ¬ a = 5 := by rw [g5]; decide
        rw [if_neg n4, if_neg g3, if_neg n5, if_pos g5, if_pos (k5.mp g5)]
      · rw [if_neg (show ¬ b = 62 from fun q => g5 (k5.mpr q))]
        by_cases g2 : a = 4
        · rw [if_pos g2, if_pos (k2.mp g2)]
        · rw [if_neg g2, if_neg (show ¬ b = 316 from fun q => g2 (k2.mpr q)), if_neg g3]
          by_cases g4 : a = 5
          · rw [if_pos g4, if_pos (k4.mp g4)]
          · rw [if_neg g4, if_neg (show ¬ b = 318 from fun q => g4 (k4.mpr q)), if_neg g5]
/-- where the word fits nowhere: behind an operand -/
theorem bhd_f {C : CT} {D : DT} {A wk wp : Nat → Int32} {ww : Nat → Int64} {ir dp : Int32} (hT : TKN C.1 C.2.2.2.2.2.2.2.1 A wk wp ww) (hP : PD C D) {cu : Nat} {p : List Int32} {sc : Nat} {bk : Nat → Int32} {bw : Nat → Int64} {b : Nat} {Y : Nat → Int32} {o : OT} (B : BHD C D A wk ir cu dp p sc bk bw b Y o) (hs : NS wk cu) (d0 : 0 ≤ dp.toInt) (h5 : ¬ (wk cu = 41 ∧ ¬ dp = 0)) (h6 : dp = 0 → ir = 0 → f_Reader_compares (wk cu) = 0) (h7 : dp = 0 → ¬ ir = 0 → ¬ wk cu = 33 ∧ ¬ wk cu = 64 ∧ ¬ wk cu = 59 ∧ ¬ wk cu = 0) : GW wk cu ∧ FLD C wp cu o := by
  obtain ⟨n, x, be, xk, xp, xv, xd, xo, yk, yv, yo, e, hn, hxd, hxo, gw, sl, bl_, eq, fr, pu⟩ := B
  obtain ⟨K, v', A', w', nx, kr, vv, nxt⟩ := hT.2.2 cu gw.1 gw.2 xv
  obtain ⟨n', rfl⟩ := n_1 hn gw.1
  obtain ⟨f1, f2, f3, f4, f5, f6, f7, f8, f9⟩ := kr_f kr
  obtain ⟨s1, s2, s3, s4⟩ := hs
  have k33 := kr_i kr (c := 33) (d := 33) (by decide)
  have k64 := kr_i kr (c := 64) (d := 64) (by decide)
  have k59 := kr_i kr (c := 59) (d := 59) (by decide)
  rw [s_bbad nx (fun q => s1 (f6.mpr q)) (fun q => s2 (f7.mpr q)) (fun q => s3 (f8.mpr q)) (fun q => s4 (f4.mpr q)) (fun q => h5 ⟨f5.mpr q.1, q.2⟩) d0 (fun q1 q2 => (kr_cmp kr).mp (h6 q1 q2)) (fun q1 q2 => by
    obtain ⟨t1, t2, t3, t4⟩ := h7 q1 q2
    exact ⟨fun q => t1 (k33.mpr q), fun q => t2 (k64.mpr q), fun q => t3 (k59.mpr q), fun q => t4 (f9.mpr q)⟩)] at e
  rw [e]
  exact ⟨gw, fa_fl hP pu⟩
/-- an operator that joins two -/
theorem bhd_op {C : CT} {D : DT} {A wk wp : Nat → Int32} {ww : Nat → Int64} {ir dp : Int32} (hT : TKN C.1 C.2.2.2.2.2.2.2.1 A wk wp ww) {cu : Nat} {p : List Int32} {sc : Nat} {bk : Nat → Int32} {bw : Nat → Int64} {b : Nat} {Y : Nat → Int32} {o : OT} {le : Int32} (hk : (le = 3 ∧ (wk cu = 42 ∨ wk cu = 47)) ∨ (le = 1 ∧ (wk cu = 43 ∨ wk cu = 45))) (hq : ∀ a ∈ p, ¬ f_Model_rank a < le) (ht : b = 0 ∨ f_Model_rank (Y (b - 1)) < le) (B : BHD C D A wk ir cu dp p sc bk bw b Y o) : OPD C D A wk ir (cu + 1) dp 0 sc bk bw (b + 1) (upd Y b (wk cu)) o := by
  obtain ⟨n, x, be, xk, xp, xv, xd, xo, yk, yv, yo, e, hn, hxd, hxo, gw, sl, bl_, eq, fr, pu⟩ := B
  obtain ⟨K, v', A', w', nx, kr, vv, nxt⟩ := hT.2.2 cu gw.1 gw.2 xv
  obtain ⟨n', rfl⟩ := n_1 hn gw.1
  obtain ⟨f1, f2, f3, f4, f5, f6, f7, f8, f9⟩ := kr_f kr
  have k0 : ¬ wk cu = 0 := by rcases hk with ⟨-, q | q⟩ | ⟨-, q | q⟩ <;> rw [q] <;> decide
  have k1 : ¬ wk cu = 1 := by rcases hk with ⟨-, q | q⟩ | ⟨-, q | q⟩ <;> rw [q] <;> decide
  have g2 := gw_s hT gw k0 k1
  obtain ⟨w1, w2⟩ := nxt k0
  have hK : K = wk cu := by
    rcases hk with ⟨-, q | q⟩ | ⟨-, q | q⟩
    · rw [q]; exact f6.mp q
    · rw [q]; exact f7.mp q
    · rw [q]; exact f8.mp q
    · rw [q]; exact f4.mp q
  have xs := eqp_s p x (b + p.length) yk yv eq
  have gl := gw.1
  obtain ⟨X, O, yk', yv', r1, r2, r3, r4, r5⟩ := rd_all (le := le) p xd xo yk yv (by rw [show xd.toInt.toNat = x by omega, show xo.toInt.toNat = b + p.length by omega]; exact eq) (by omega) (by omega) (by omega) hq (by
    rcases ht with q | q
    · left; omega
    · by_cases b0 : b = 0
      · left; omega
      · right
        rw [show xo.toInt.toNat - p.length - 1 = b - 1 by omega, fr (b - 1) (by omega)]
        exact q)
  have st : o = LR C n' 2 dp 0 ir A' K (wp cu) v' w' D (f_Model_reduce le xd xo yk yv yo).1 ((f_Model_reduce le xd xo yk yv yo).2.1 + 1) (f_Model_reduce le xd xo yk yv yo).2.2.1 (f_Model_reduce le xd xo yk yv yo).2.2.2 (upd yo (f_Model_reduce le xd xo yk yv yo).2.1.toNatClampNeg K) := by
    rcases hk with ⟨q1, q2⟩ | ⟨q1, q2⟩
    · rw [e, q1]
      exact s_mul nx (by rw [hK]; exact q2)
    · rw [e, q1]
      exact s_add nx (by rw [hK]; exact q2)
  rw [r1, w1, w2, hK] at st
  have On : O.toNatClampNeg = b := by show O.toInt.toNat = b; omega
  have O1 : (O + 1).toInt = O.toInt + 1 := oi_addE rfl oi_1 (by omega) (by omega)
  refine ⟨n', wk cu, wp cu, v', X, O + 1, yk', yv', upd yo b (wk cu), ?_, by omega, by omega, by omega, g2, by omega, by omega, ?_, fun j hj => ?_, fun j hj => ?_⟩
  · rw [← On]
    exact st
  · refine ⟨rfl, fun k hk' => r4.2 k ?_⟩
    omega
  · by_cases q : j = b
    · rw [q, u32_s, u32_s]
    · rw [u32_n _ _ q, u32_n _ _ q]
      exact fr j (by omega)
  · rw [(r5 j hj).1, (r5 j hj).2]
    exact pu j hj
/-- the joined steps, one more -/
theorem bhd_add {C : CT} {D : DT} {A wk : Nat → Int32} {ir dp : Int32} {cu : Nat} {p : List Int32} {sc : Nat} {bk : Nat → Int32} {bw : Nat → Int64} {b : Nat} {Y Y' : Nat → Int32} {o : OT} {a ca : Int32} (hs : SK ca a) (B : BHD C D A wk ir cu dp p sc bk bw (b + 1) Y' o) (hY : Y' b = a) (hy : ∀ j, j < b → Y' j = Y j) (hl : sc + 1 ≤ cu) : BHD C D A wk ir cu dp (p ++ [a]) (sc + 1) (upd bk sc ca) (vp_updL bw sc 0) b Y o := by
  obtain ⟨n, x, be, xk, xp, xv, xd, xo, yk, yv, yo, e, hn, hxd, hxo, gw, sl, bl_, eq, fr, pu⟩ := B
  have ll : b + (p ++ [a]).length = b + 1 + p.length := by rw [List.length_append, List.length_singleton]; omega
  refine ⟨n, x, be, xk, xp, xv, xd, xo, yk, yv, yo, e, hn, hxd, by rw [ll]; exact hxo, gw, hl, by rw [ll]; exact bl_, ?_, fun j hj => by rw [fr j (by omega), hy j hj], pu⟩
  rw [ll]
  refine eqp_a hs p x (b + 1 + p.length) yk yv eq (by omega) ?_
  rw [show b + 1 + p.length - p.length - 1 = b by omega, fr b (by omega)]
  exact hY
set_option maxHeartbeats 1000000 in
theorem fac {C : CT} {D : DT} {A wk wp : Nat → Int32} {ww : Nat → Int64} {ir dp be : Int32} (hT : TKN C.1 C.2.2.2.2.2.2.2.1 A wk wp ww) (hP : PD C D) {rc : SF} (d0 : 0 ≤ dp.toInt) (d8 : dp.toInt ≤ 8) (hrc : dp.toInt < 8 → SIM C D A wk wp ww ir rc (dp + 1)) {c sci : Int32} {cu sc b : Nat} {bk : Nat → Int32} {bw : Nat → Int64} {Y : Nat → Int32} {o : OT} (hc : c.toInt = (cu : Int)) (hs : sci.toInt = (sc : Int)) (hO : OPD C D A wk ir cu dp be sc bk bw b Y o) (hm : ¬ (wk cu = 45 ∧ ¬ be = 0)) :
    RES C D A wk wp ir cu sc bk bw dp b Y o (1 + 2 * (8 - dp.toInt.toNat)) (fun p => p = []) (fun _ => True) (f_Reader_takesFactor rc dp c wk ww sci bk bw) := by
  have gw := (opd_g hO).1
  unfold f_Reader_takesFactor
  simp only [lt_]
  rw [(wd_k hc gw.1).1, wd_w hc gw.1]
  by_cases k2 : wk cu = 2
  · rw [if_pos k2]
    exact fac_n hT hc hs hO (by omega) (Or.inl k2)
  · rw [if_neg k2]
    by_cases k3 : wk cu = 3
    · rw [if_pos k3]
      exact fac_n hT hc hs hO (by omega) (Or.inr k3)
    · rw [if_neg k3]
      by_cases h8 : 8 ≤ dp
      · rw [if_pos h8]
        exact ⟨fun _ => ⟨cu, hc, opd_f hT hP hO hm k2 k3 (fun q => q.2 h8)⟩, fun q => absurd rfl q⟩
      · rw [if_neg h8]
        have h8' : dp.toInt < 8 := by rw [oi_le, oi_8] at h8; omega
        have dq : (dp + 1).toInt = dp.toInt + 1 := oi_addE rfl oi_1 (by omega) (by omega)
        obtain ⟨p1, p2⟩ := wd_p (kd := 40) hT gw hc (by decide) (by decide)
        by_cases k40 : wk cu = 40
        · obtain ⟨e1, e2, e3⟩ := p1 k40
          rw [e1]
          dsimp only
          rw [if_neg (show ¬ (1 : Int32) = 0 by decide)]
          have hO2 : OPD C D A wk ir (cu + 1) (dp + 1) 1 sc bk bw (b + 1) (upd Y b 40) o := by
            obtain ⟨n, xk, xp, xv, xd, xo, yk, yv, yo, e, hn, hxd, hxo, gw, sl, bl_, eq, fr, pu⟩ := hO
            obtain ⟨K, v', A', w', nx, kr, vv, nxt⟩ := hT.2.2 cu gw.1 gw.2 xv
            obtain ⟨n', rfl⟩ := n_1 hn gw.1
            obtain ⟨f1, f2, f3, f4, f5, f6, f7, f8, f9⟩ := kr_f kr
            obtain ⟨w1, w2⟩ := nxt (by rw [k40]; decide)
            have hK := f3.mp k40
            have gl := gw.1
            rw [s_par nx hK h8, w1, w2] at e
            have On : xo.toNatClampNeg = b := by show xo.toInt.toNat = b; omega
            have O1 : (xo + 1).toInt = xo.toInt + 1 := oi_addE rfl oi_1 (by omega) (by omega)
            rw [On] at e
            refine ⟨n', K, wp cu, v', xd, xo + 1, yk, yv, _, e, by omega, hxd, by omega, e3, by omega, by omega, ⟨rfl, eq.2⟩, fun j hj => ?_, pu⟩
            by_cases q : j = b
            · rw [q, u32_s, u32_s]
            · rw [u32_n _ _ q, u32_n _ _ q]
              exact fr j (by omega)
          have R := hrc h8' (c + 1) sci (cu + 1) sc (b + 1) bk bw (upd Y b 40) o e2 hs hO2 (Or.inr (by rw [show b + 1 - 1 = b by omega, u32_s]; decide))
          generalize rc (dp + 1) (c + 1) wk ww sci bk bw = z at R ⊢
          by_cases hz : z.1 = 0
          · rw [if_pos hz]
            exact ⟨fun _ => R.1 hz, fun q => absurd rfl q⟩
          · rw [if_neg hz]
            obtain ⟨cu2, sc2, p, r1, r2, r3, r4, r5, r6, r7, r8, r9, B⟩ := R.2 hz
            obtain ⟨gw2, -, -⟩ := bhd_g B
            have gl2 := gw2.1
            obtain ⟨p3, p4⟩ := wd_p (kd := 41) hT gw2 r1 (by decide) (by decide)
            have dn0 : ¬ dp + 1 = 0 := fun q => by rw [q, oi_z] at dq; omega
            by_cases k41 : wk cu2 = 41
            · obtain ⟨e4, e5, e6⟩ := p3 k41
              rw [e4]
              dsimp only
              rw [if_neg (show ¬ (1 : Int32) = 0 by decide)]
              refine ⟨fun q => absurd q (show ¬ (1 : Int32) = 0 by decide), fun _ => ⟨cu2 + 1, sc2, [], e5, r2, by omega, r4, by omega, r6, val_w r7 (by omega), rfl, trivial, ?_⟩⟩
              obtain ⟨n, x, be', xk, xp, xv, xd, xo, yk, yv, yo, e, hn, hxd, hxo, gw, sl, bl_, eq, fr, pu⟩ := B
              obtain ⟨K, v', A', w', nx, kr, vv, nxt⟩ := hT.2.2 cu2 gw.1 gw.2 xv
              obtain ⟨n', rfl⟩ := n_1 hn gw.1
              obtain ⟨f1, f2, f3, f4, f5, f6, f7, f8, f9⟩ := kr_f kr
              obtain ⟨w1, w2⟩ := nxt (by rw [k41]; decide)
              have hK := f5.mp k41
              have xs := eqp_s p x (b + 1 + p.length) yk yv eq
              rw [s_close nx hK dn0 (by rw [oi_le, oi_z]; omega), w1, w2] at e
              obtain ⟨X, O, yk', yv', q1, q2, q3, q4, q5⟩ := rd_all (le := 1) p xd xo yk yv (by rw [show xd.toInt.toNat = x by omega, show xo.toInt.toNat = b + 1 + p.length by omega]; exact eq) (by omega) (by omega) (by omega) r8 (by
                right
                rw [show xo.toInt.toNat - p.length - 1 = b by omega, fr b (by omega), u32_s]
                decide)
              rw [q1] at e
              have dm : dp + 1 + (-1) = dp := i32_ext (by rw [oi_addE dq (show (-1 : Int32).toInt = -1 by decide) (by omega) (by omega)]; omega)
              rw [dm] at e
              have O1 : (O - 1).toInt = O.toInt - 1 := oi_subE rfl oi_1 (by omega) (by omega)
              refine ⟨n', sc2, be', K, wp cu2, v', X, O - 1, yk', yv', yo, e, by omega, by omega, by show (O - 1).toInt = ((b + 0 : Nat) : Int); omega, e6, by omega, by show b + 0 ≤ cu2 + 1; omega, ⟨rfl, fun k hk => q4.2 k (by omega)⟩, fun j hj => ?_, fun j hj => ?_⟩
              · rw [fr j (by omega), u32_n _ _ (by omega)]
              · rw [(q5 j hj).1, (q5 j hj).2]
                exact pu j hj
            · rw [p4 k41]
              dsimp only
              rw [if_pos rfl]
              exact ⟨fun _ => ⟨cu2, r1, bhd_f hT hP B r9 (by omega) (fun q => k41 q.1) (fun q => absurd q dn0) (fun q => absurd q dn0)⟩, fun q => absurd rfl q⟩
        · rw [p2 k40]
          dsimp only
          rw [if_pos rfl]
          exact ⟨fun _ => ⟨cu, hc, opd_f hT hP hO hm k2 k3 (fun q => k40 q.1)⟩, fun q => absurd rfl q⟩
def QT (p : List Int32) : Prop := p = [] ∨ p = [42] ∨ p = [47]
def NT (wk : Nat → Int32) (cu : Nat) : Prop := ¬ wk cu = 42 ∧ ¬ wk cu = 47
theorem qt_3 {p : List Int32} (h : QT p) : ∀ a ∈ p, ¬ f_Model_rank a < 3 := by
  rcases h with h | h | h <;> subst h
  · intro a ha; exact absurd ha (List.not_mem_nil)
  · intro a ha; rw [List.mem_singleton.mp ha]; decide
  · intro a ha; rw [List.mem_singleton.mp ha]; decide
theorem qt_1 {p : List Int32} (h : QT p) : QS p := by
  rcases h with h | h | h <;> subst h
  · intro a ha; exact absurd ha (List.not_mem_nil)
  · intro a ha; rw [List.mem_singleton.mp ha]; decide
  · intro a ha; rw [List.mem_singleton.mp ha]; decide
theorem qs_a {p : List Int32} {a : Int32} (h : QS p) (g : ¬ f_Model_rank a < 1) : QS (p ++ [a]) := by
  intro q hq
  rcases List.mem_append.mp hq with e | e
  · exact h q e
  · rw [List.mem_singleton.mp e]; exact g
theorem val_u {bk bk' : Nat → Int32} {s0 s1 s2 m m' : Nat} {k : Int32} (h1 : VAL bk s0 s1 m) (hf : ∀ j, j < s1 → bk' j = bk j) (h2 : VAL bk' s1 s2 m') (hm : m' + 1 ≤ m) (hk : k = 42 ∨ k = 47 ∨ k = 43 ∨ k = 45) : VAL (upd bk' s2 k) s0 (s2 + 1) m := by
  have l1 := h1.1
  have l2 := h2.1
  refine val_o (s1 := s1) (s2 := s2) (val_c h1 (fun j a b => ?_)) (val_c h2 (fun j a b => ?_)) hm ?_ ?_
  · rw [u32_n _ _ (by omega)]
    exact hf j b
  · rw [u32_n _ _ (by omega)]
  · rw [u32_s]
    rcases hk with q | q | q | q <;> rw [q] <;> decide
  · rw [u32_s]
    rcases hk with q | q | q | q <;> rw [q] <;> decide
set_option maxHeartbeats 1000000 in
theorem ter_l {C : CT} {D : DT} {A wk wp : Nat → Int32} {ww : Nat → Int64} {ir dp : Int32} (hT : TKN C.1 C.2.2.2.2.2.2.2.1 A wk wp ww) (hP : PD C D) {rc : SF} (d0 : 0 ≤ dp.toInt) (d8 : dp.toInt ≤ 8) (hrc : dp.toInt < 8 → SIM C D A wk wp ww ir rc (dp + 1)) {cu0 sc0 b : Nat} {bk0 : Nat → Int32} {bw0 : Nat → Int64} {Y : Nat → Int32} {o : OT} (ht : b = 0 ∨ f_Model_rank (Y (b - 1)) < 3) (pc psc : Int32) (pk : Nat → Int32) (pw : Nat → Int64) :
    ∀ (n : Nat) (i c sci : Int32) (cu sc : Nat) (bk : Nat → Int32) (bw : Nat → Int64) (p : List Int32), i.toInt + (n : Int) = 121 → 0 ≤ i.toInt → i.toInt < (cu : Int) → c.toInt = (cu : Int) → sci.toInt = (sc : Int) → QT p → BHD C D A wk ir cu dp p sc bk bw b Y o → VAL bk sc0 sc (2 + 2 * (8 - dp.toInt.toNat)) → (∀ j, j < sc0 → bk j = bk0 j ∧ bw j = bw0 j) → cu0 < cu → sc0 < sc → sc + cu0 ≤ cu + sc0 →
      RES C D A wk wp ir cu0 sc0 bk0 bw0 dp b Y o (2 + 2 * (8 - dp.toInt.toNat)) QT (NT wk) (f_Reader_takesTerm_L13 rc dp pc wk ww psc pk pw n i c sci bk bw) := by
  intro n
  induction n with
  | zero =>
    intro i c sci cu sc bk bw p h1 h2 h3 hc hs hq B v fr l1 l2 l3
    have := (bhd_g B).1.1
    omega
  | succ n ih =>
    intro i c sci cu sc bk bw p h1 h2 h3 hc hs hq B v fr l1 l2 l3
    obtain ⟨gw, sl, bl_⟩ := bhd_g B
    have gl := gw.1
    rw [f_Reader_takesTerm_L13_s]
    simp only [lt_]
    rw [if_neg (by rw [oi_le, c120]; omega), (wd_k hc gl).1]
    have go : (wk cu = 42 ∨ wk cu = 47) → RES C D A wk wp ir cu0 sc0 bk0 bw0 dp b Y o (2 + 2 * (8 - dp.toInt.toNat)) QT (NT wk) (if (f_Reader_takesFactor rc dp (f_Words_advance c) wk ww sci bk bw).1 = 0 then (0, (f_Reader_takesFactor rc dp (f_Words_advance c) wk ww sci bk bw).2.1, (f_Reader_takesFactor rc dp (f_Words_advance c) wk ww sci bk bw).2.2.1, (f_Reader_takesFactor rc dp (f_Words_advance c) wk ww sci bk bw).2.2.2.1, (f_Reader_takesFactor rc dp (f_Words_advance c) wk ww sci bk bw).2.2.2.2) else f_Reader_takesTerm_L13 rc dp pc wk ww psc pk pw n (i + 1) (f_Reader_takesFactor rc dp (f_Words_advance c) wk ww sci bk bw).2.1 (f_Book_addStep (wk cu) 0 (f_Reader_takesFactor rc dp (f_Words_advance c) wk ww sci bk bw).2.2.1 (f_Reader_takesFactor rc dp (f_Words_advance c) wk ww sci bk bw).2.2.2.1 (f_Reader_takesFactor rc dp (f_Words_advance c) wk ww sci bk bw).2.2.2.2).1 (f_Book_addStep (wk cu) 0 (f_Reader_takesFactor rc dp (f_Words_advance c) wk ww sci bk bw).2.2.1 (f_Reader_takesFactor rc dp (f_Words_advance c) wk ww sci bk bw).2.2.2.1 (f_Reader_takesFactor rc dp (f_Words_advance c) wk ww sci bk bw).2.2.2.2).2.1 (f_Book_addStep (wk cu) 0 (f_Reader_takesFactor rc dp (f_Words_advance c) wk ww sci bk bw).2.2.1 (f_Reader_takesFactor rc dp (f_Words_advance c) wk ww sci bk bw).2.2.2.1 (f_Reader_takesFactor rc dp (f_Words_advance c) wk ww sci bk bw).2.2.2.2).2.2) := by
      intro hk
      have k0 : ¬ wk cu = 0 := by rcases hk with q | q <;> rw [q] <;> decide
      have k1 : ¬ wk cu = 1 := by rcases hk with q | q <;> rw [q] <;> decide
      have g2 := gw_s hT gw k0 k1
      have gl2 := g2.1
      obtain ⟨a1, a2⟩ := wd_a hc (by omega)
      have hO := bhd_op (le := 3) hT (Or.inl ⟨rfl, hk⟩) (qt_3 hq) ht B
      have R := fac hT hP d0 d8 hrc a2 hs hO (fun q => q.2 rfl)
      rw [a1]
      generalize f_Reader_takesFactor rc dp (c + 1) wk ww sci bk bw = z at R ⊢
      by_cases hz : z.1 = 0
      · rw [if_pos hz]
        exact ⟨fun _ => R.1 hz, fun q => absurd rfl q⟩
      · rw [if_neg hz]
        obtain ⟨cu2, sc2, p', r1, r2, r3, r4, r5, r6, r7, r8, -, B2⟩ := R.2 hz
        have r8 : p' = [] := r8
        subst r8
        obtain ⟨gw2, sl2, -⟩ := bhd_g B2
        have gl3 := gw2.1
        obtain ⟨s1, s2⟩ := as_k (kd := wk cu) (wo := 0) (bk := z.2.2.2.1) (bw := z.2.2.2.2) r2 (by omega)
        rw [s1]
        have i1 : (i + 1).toInt = i.toInt + 1 := oi_addE rfl oi_1 (by omega) (by omega)
        have B3 := bhd_add (Y := Y) (a := wk cu) (ca := wk cu) (Or.inr (Or.inr (Or.inr ⟨rfl, by rcases hk with q | q; exact Or.inl q; exact Or.inr (Or.inr (Or.inr q))⟩))) B2 (u32_s _ _ _) (fun j hj => u32_n _ _ (by omega)) (by omega)
        refine ih (i + 1) z.2.1 (z.2.2.1 + 1) cu2 (sc2 + 1) _ _ [wk cu] (by omega) (by omega) (by omega) r1 s2 (by rcases hk with q | q <;> rw [q]; exact Or.inr (Or.inl rfl); exact Or.inr (Or.inr rfl)) B3 ?_ (fun j hj => ?_) (by omega) (by omega) (by omega)
        · exact val_u v (fun j hj => (r6 j hj).1) r7 (by omega) (by rcases hk with q | q; exact Or.inl q; exact Or.inr (Or.inl q))
        · show upd z.2.2.2.1 sc2 (wk cu) j = bk0 j ∧ vp_updL z.2.2.2.2 sc2 0 j = bw0 j
          rw [u32_n _ _ (by omega), up_n _ _ (by omega), (r6 j (by omega)).1, (r6 j (by omega)).2]
          exact fr j hj
    by_cases k42 : wk cu = 42
    · rw [if_pos k42]
      exact go (Or.inl k42)
    · rw [if_neg k42]
      by_cases k47 : wk cu = 47
      · rw [if_pos k47]
        exact go (Or.inr k47)
      · rw [if_neg k47]
        exact ⟨fun q => absurd q (show ¬ (1 : Int32) = 0 by decide), fun _ => ⟨cu, sc, p, hc, hs, l1, l2, l3, fr, v, hq, ⟨k42, k47⟩, B⟩⟩
theorem ter {C : CT} {D : DT} {A wk wp : Nat → Int32} {ww : Nat → Int64} {ir dp be : Int32} (hT : TKN C.1 C.2.2.2.2.2.2.2.1 A wk wp ww) (hP : PD C D) {rc : SF} (d0 : 0 ≤ dp.toInt) (d8 : dp.toInt ≤ 8) (hrc : dp.toInt < 8 → SIM C D A wk wp ww ir rc (dp + 1)) {c sci : Int32} {cu sc b : Nat} {bk : Nat → Int32} {bw : Nat → Int64} {Y : Nat → Int32} {o : OT} (ht : b = 0 ∨ f_Model_rank (Y (b - 1)) < 3) (hc : c.toInt = (cu : Int)) (hs : sci.toInt = (sc : Int)) (hO : OPD C D A wk ir cu dp be sc bk bw b Y o) (hm : ¬ (wk cu = 45 ∧ ¬ be = 0)) :
    RES C D A wk wp ir cu sc bk bw dp b Y o (2 + 2 * (8 - dp.toInt.toNat)) QT (NT wk) (f_Reader_takesTerm rc dp c wk ww sci bk bw) := by
  have R := fac hT hP d0 d8 hrc hc hs hO hm
  unfold f_Reader_takesTerm
  simp only [lt_]
  generalize f_Reader_takesFactor rc dp c wk ww sci bk bw = z at R ⊢
  by_cases hz : z.1 = 0
  · rw [if_pos hz]
    exact ⟨fun _ => R.1 hz, fun q => absurd rfl q⟩
  · rw [if_neg hz]
    obtain ⟨cu2, sc2, p', r1, r2, r3, r4, r5, r6, r7, r8, -, B2⟩ := R.2 hz
    exact ter_l hT hP d0 d8 hrc ht c sci bk bw 121 0 z.2.1 z.2.2.1 cu2 sc2 _ _ p' (by decide) (by decide) (by rw [oi_z]; omega) r1 r2 (Or.inl r8) B2 (val_w r7 (by omega)) r6 r3 r4 r5
set_option maxHeartbeats 1000000 in
theorem sid_l {C : CT} {D : DT} {A wk wp : Nat → Int32} {ww : Nat → Int64} {ir dp : Int32} (hT : TKN C.1 C.2.2.2.2.2.2.2.1 A wk wp ww) (hP : PD C D) {rc : SF} (d0 : 0 ≤ dp.toInt) (d8 : dp.toInt ≤ 8) (hrc : dp.toInt < 8 → SIM C D A wk wp ww ir rc (dp + 1)) {cu0 sc0 b : Nat} {bk0 : Nat → Int32} {bw0 : Nat → Int64} {Y : Nat → Int32} {o : OT} (ht : b = 0 ∨ f_Model_rank (Y (b - 1)) < 1) (pc psc : Int32) (pk : Nat → Int32) (pw : Nat → Int64) :
    ∀ (n : Nat) (i c sci : Int32) (cu sc : Nat) (bk : Nat → Int32) (bw : Nat → Int64) (p : List Int32), i.toInt + (n : Int) = 121 → 0 ≤ i.toInt → i.toInt < (cu : Int) → c.toInt = (cu : Int) → sci.toInt = (sc : Int) → QS p → NT wk cu → BHD C D A wk ir cu dp p sc bk bw b Y o → VAL bk sc0 sc (3 + 2 * (8 - dp.toInt.toNat)) → (∀ j, j < sc0 → bk j = bk0 j ∧ bw j = bw0 j) → cu0 < cu → sc0 < sc → sc + cu0 ≤ cu + sc0 →
      RES C D A wk wp ir cu0 sc0 bk0 bw0 dp b Y o (3 + 2 * (8 - dp.toInt.toNat)) QS (NS wk) (f_Reader_takesSide_L35 rc dp pc wk ww psc pk pw n i c sci bk bw) := by
  intro n
  induction n with
  | zero =>
    intro i c sci cu sc bk bw p h1 h2 h3 hc hs hq hn B v fr l1 l2 l3
    have := (bhd_g B).1.1
    omega
  | succ n ih =>
    intro i c sci cu sc bk bw p h1 h2 h3 hc hs hq hnt B v fr l1 l2 l3
    obtain ⟨gw, sl, bl_⟩ := bhd_g B
    have gl := gw.1
    rw [f_Reader_takesSide_L35_s]
    simp only [lt_]
    rw [if_neg (by rw [oi_le, c120]; omega), (wd_k hc gl).1]
    have go : (wk cu = 43 ∨ wk cu = 45) → RES C D A wk wp ir cu0 sc0 bk0 bw0 dp b Y o (3 + 2 * (8 - dp.toInt.toNat)) QS (NS wk) (if (f_Reader_takesTerm rc dp (f_Words_advance c) wk ww sci bk bw).1 = 0 then (0, (f_Reader_takesTerm rc dp (f_Words_advance c) wk ww sci bk bw).2.1, (f_Reader_takesTerm rc dp (f_Words_advance c) wk ww sci bk bw).2.2.1, (f_Reader_takesTerm rc dp (f_Words_advance c) wk ww sci bk bw).2.2.2.1, (f_Reader_takesTerm rc dp (f_Words_advance c) wk ww sci bk bw).2.2.2.2) else f_Reader_takesSide_L35 rc dp pc wk ww psc pk pw n (i + 1) (f_Reader_takesTerm rc dp (f_Words_advance c) wk ww sci bk bw).2.1 (f_Book_addStep (wk cu) 0 (f_Reader_takesTerm rc dp (f_Words_advance c) wk ww sci bk bw).2.2.1 (f_Reader_takesTerm rc dp (f_Words_advance c) wk ww sci bk bw).2.2.2.1 (f_Reader_takesTerm rc dp (f_Words_advance c) wk ww sci bk bw).2.2.2.2).1 (f_Book_addStep (wk cu) 0 (f_Reader_takesTerm rc dp (f_Words_advance c) wk ww sci bk bw).2.2.1 (f_Reader_takesTerm rc dp (f_Words_advance c) wk ww sci bk bw).2.2.2.1 (f_Reader_takesTerm rc dp (f_Words_advance c) wk ww sci bk bw).2.2.2.2).2.1 (f_Book_addStep (wk cu) 0 (f_Reader_takesTerm rc dp (f_Words_advance c) wk ww sci bk bw).2.2.1 (f_Reader_takesTerm rc dp (f_Words_advance c) wk ww sci bk bw).2.2.2.1 (f_Reader_takesTerm rc dp (f_Words_advance c) wk ww sci bk bw).2.2.2.2).2.2) := by
      intro hk
      have k0 : ¬ wk cu = 0 := by rcases hk with q | q <;> rw [q] <;> decide
      have k1 : ¬ wk cu = 1 := by rcases hk with q | q <;> rw [q] <;> decide
      have g2 := gw_s hT gw k0 k1
      have gl2 := g2.1
      obtain ⟨a1, a2⟩ := wd_a hc (by omega)
      have hO := bhd_op (le := 1) hT (Or.inr ⟨rfl, hk⟩) hq ht B
      have R := ter hT hP d0 d8 hrc (Or.inr (by rw [show b + 1 - 1 = b by omega, u32_s]; rcases hk with q | q <;> rw [q] <;> decide)) a2 hs hO (fun q => q.2 rfl)
      rw [a1]
      generalize f_Reader_takesTerm rc dp (c + 1) wk ww sci bk bw = z at R ⊢
      by_cases hz : z.1 = 0
      · rw [if_pos hz]
        exact ⟨fun _ => R.1 hz, fun q => absurd rfl q⟩
      · rw [if_neg hz]
        obtain ⟨cu2, sc2, p', r1, r2, r3, r4, r5, r6, r7, r8, r9, B2⟩ := R.2 hz
        obtain ⟨gw2, sl2, -⟩ := bhd_g B2
        have gl3 := gw2.1
        obtain ⟨s1, s2⟩ := as_k (kd := wk cu) (wo := 0) (bk := z.2.2.2.1) (bw := z.2.2.2.2) r2 (by omega)
        rw [s1]
        have i1 : (i + 1).toInt = i.toInt + 1 := oi_addE rfl oi_1 (by omega) (by omega)
        have B3 := bhd_add (Y := Y) (a := wk cu) (ca := wk cu) (Or.inr (Or.inr (Or.inr ⟨rfl, by rcases hk with q | q; exact Or.inr (Or.inl q); exact Or.inr (Or.inr (Or.inl q))⟩))) B2 (u32_s _ _ _) (fun j hj => u32_n _ _ (by omega)) (by omega)
        refine ih (i + 1) z.2.1 (z.2.2.1 + 1) cu2 (sc2 + 1) _ _ (p' ++ [wk cu]) (by omega) (by omega) (by omega) r1 s2 (qs_a (qt_1 r8) (by rcases hk with q | q <;> rw [q] <;> decide)) r9 B3 ?_ (fun j hj => ?_) (by omega) (by omega) (by omega)
        · exact val_u v (fun j hj => (r6 j hj).1) r7 (by omega) (by rcases hk with q | q; exact Or.inr (Or.inr (Or.inl q)); exact Or.inr (Or.inr (Or.inr q)))
        · show upd z.2.2.2.1 sc2 (wk cu) j = bk0 j ∧ vp_updL z.2.2.2.2 sc2 0 j = bw0 j
          rw [u32_n _ _ (by omega), up_n _ _ (by omega), (r6 j (by omega)).1, (r6 j (by omega)).2]
          exact fr j hj
    by_cases k43 : wk cu = 43
    · rw [if_pos k43]
      exact go (Or.inl k43)
    · rw [if_neg k43]
      by_cases k45 : wk cu = 45
      · rw [if_pos k45]
        exact go (Or.inr k45)
      · rw [if_neg k45]
        exact ⟨fun q => absurd q (show ¬ (1 : Int32) = 0 by decide), fun _ => ⟨cu, sc, p, hc, hs, l1, l2, l3, fr, v, hq, ⟨hnt.1, hnt.2, k43, k45⟩, B⟩⟩
theorem sid {C : CT} {D : DT} {A wk wp : Nat → Int32} {ww : Nat → Int64} {ir dp : Int32} (hT : TKN C.1 C.2.2.2.2.2.2.2.1 A wk wp ww) (hP : PD C D) {rc : SF} (d0 : 0 ≤ dp.toInt) (d8 : dp.toInt ≤ 8) (hrc : dp.toInt < 8 → SIM C D A wk wp ww ir rc (dp + 1)) : SIM C D A wk wp ww ir (f_Reader_takesSide rc) dp := by
  intro c sci cu sc b bk bw Y o hc hs hO ht
  obtain ⟨gw, sl, bl_⟩ := opd_g hO
  have gl := gw.1
  have ht3 : b = 0 ∨ f_Model_rank (Y (b - 1)) < 3 := by
    rcases ht with q | q
    · exact Or.inl q
    · right
      rw [oi_lt] at q ⊢
      rw [oi_1] at q
      rw [show (3 : Int32).toInt = 3 by decide]
      omega
  unfold f_Reader_takesSide
  simp only [lt_]
  obtain ⟨p1, p2⟩ := wd_p (kd := 45) hT gw hc (by decide) (by decide)
  by_cases k45 : wk cu = 45
  · obtain ⟨e1, e2, e3⟩ := p1 k45
    rw [e1]
    dsimp only
    have gl2 := e3.1
    have hO2 : OPD C D A wk ir (cu + 1) dp 0 sc bk bw (b + 1) (upd Y b 78) o := by
      obtain ⟨n, xk, xp, xv, xd, xo, yk, yv, yo, e, hn, hxd, hxo, gw, sl, bl_, eq, fr, pu⟩ := hO
      obtain ⟨K, v', A', w', nx, kr, vv, nxt⟩ := hT.2.2 cu gw.1 gw.2 xv
      obtain ⟨n', rfl⟩ := n_1 hn gw.1
      obtain ⟨f1, f2, f3, f4, f5, f6, f7, f8, f9⟩ := kr_f kr
      obtain ⟨w1, w2⟩ := nxt (by rw [k45]; decide)
      rw [s_neg nx (f4.mp k45) (by decide), w1, w2] at e
      have On : xo.toNatClampNeg = b := by show xo.toInt.toNat = b; omega
      have O1 : (xo + 1).toInt = xo.toInt + 1 := oi_addE rfl oi_1 (by omega) (by omega)
      rw [On] at e
      refine ⟨n', K, wp cu, v', xd, xo + 1, yk, yv, _, e, by omega, hxd, by omega, e3, by omega, by omega, ⟨rfl, eq.2⟩, fun j hj => ?_, pu⟩
      by_cases q : j = b
      · rw [q, u32_s, u32_s]
      · rw [u32_n _ _ q, u32_n _ _ q]
        exact fr j (by omega)
    have R := ter hT hP d0 d8 hrc (Or.inr (by rw [show b + 1 - 1 = b by omega, u32_s]; decide)) e2 hs hO2 (fun q => q.2 rfl)
    generalize f_Reader_takesTerm rc dp (c + 1) wk ww sci bk bw = z at R ⊢
    by_cases hz : z.1 = 0
    · rw [if_pos hz]
      exact ⟨fun _ => R.1 hz, fun q => absurd rfl q⟩
    · rw [if_neg hz, if_neg (show ¬ (1 : Int32) = 0 by decide)]
      obtain ⟨cu2, sc2, p', r1, r2, r3, r4, r5, r6, r7, r8, r9, B2⟩ := R.2 hz
      obtain ⟨gw2, sl2, -⟩ := bhd_g B2
      have gl3 := gw2.1
      obtain ⟨s1, s2⟩ := as_k (kd := 6) (wo := 0) (bk := z.2.2.2.1) (bw := z.2.2.2.2) r2 (by omega)
      rw [s1]
      have B3 := bhd_add (Y := Y) (a := 78) (ca := 6) (Or.inr (Or.inr (Or.inl ⟨rfl, rfl⟩))) B2 (u32_s _ _ _) (fun j hj => u32_n _ _ (by omega)) (by omega)
      refine sid_l hT hP d0 d8 hrc ht c sci bk bw 121 0 z.2.1 (z.2.2.1 + 1) cu2 (sc2 + 1) _ _ (p' ++ [78]) (by decide) (by decide) (by rw [oi_z]; omega) r1 s2 (qs_a (qt_1 r8) (by decide)) r9 B3 ?_ (fun j hj => ?_) (by omega) (by omega) (by omega)
      · refine val_m (val_w (val_c r7 (fun j a b => ?_)) (by omega)) (u32_s _ _ _)
        exact u32_n _ _ (by omega)
      · show upd z.2.2.2.1 sc2 6 j = bk j ∧ vp_updL z.2.2.2.2 sc2 0 j = bw j
        rw [u32_n _ _ (by omega), up_n _ _ (by omega), (r6 j (by omega)).1, (r6 j (by omega)).2]
        exact ⟨rfl, rfl⟩
  · rw [p2 k45]
    dsimp only
    have R := ter hT hP d0 d8 hrc ht3 hc hs hO (fun q => k45 q.1)
    generalize f_Reader_takesTerm rc dp c wk ww sci bk bw = z at R ⊢
    by_cases hz : z.1 = 0
    · rw [if_pos hz]
      exact ⟨fun _ => R.1 hz, fun q => absurd rfl q⟩
    · rw [if_neg hz, if_pos rfl]
      obtain ⟨cu2, sc2, p', r1, r2, r3, r4, r5, r6, r7, r8, r9, B2⟩ := R.2 hz
      exact sid_l hT hP d0 d8 hrc ht c sci bk bw 121 0 z.2.1 z.2.2.1 cu2 sc2 _ _ p' (by decide) (by decide) (by rw [oi_z]; omega) r1 r2 (qt_1 r8) r9 B2 (val_w r7 (by omega)) r6 r3 r4 r5
theorem sids {C : CT} {D : DT} {A wk wp : Nat → Int32} {ww : Nat → Int64} {ir : Int32} (hT : TKN C.1 C.2.2.2.2.2.2.2.1 A wk wp ww) (hP : PD C D) : ∀ (n : Nat) (dp : Int32), dp.toInt = 8 - (n : Int) → 0 ≤ dp.toInt → SIM C D A wk wp ww ir (g_side (n + 1)) dp := by
  intro n
  induction n with
  | zero =>
    intro dp h h0
    exact sid hT hP h0 (by omega) (fun q => by omega)
  | succ n ih =>
    intro dp h h0
    refine sid hT hP h0 (by omega) (fun q => ih (dp + 1) ?_ ?_)
    · rw [oi_addE rfl oi_1 (by omega) (by omega)]; omega
    · rw [oi_addE rfl oi_1 (by omega) (by omega)]; omega
/-- a whole side -/
theorem side0 {C : CT} {D : DT} {A wk wp : Nat → Int32} {ww : Nat → Int64} {ir : Int32} (hT : TKN C.1 C.2.2.2.2.2.2.2.1 A wk wp ww) (hP : PD C D) {c sci : Int32} {cu sc : Nat} {bk : Nat → Int32} {bw : Nat → Int64} {Y : Nat → Int32} {o : OT} (hc : c.toInt = (cu : Int)) (hs : sci.toInt = (sc : Int)) (hO : OPD C D A wk ir cu 0 1 sc bk bw 0 Y o) : RES C D A wk wp ir cu sc bk bw 0 0 Y o 19 QS (NS wk) (f_side0 c wk ww sci bk bw) := by
  have S := sids (ir := ir) hT hP 8 0 (by decide) (by decide) c sci cu sc 0 bk bw Y o hc hs hO (Or.inl rfl)
  exact S
