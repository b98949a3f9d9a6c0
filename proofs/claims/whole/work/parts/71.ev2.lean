/-! both reckoners, step by step -/
/-- after a step: alike, or both stopped -/
def EO (pe : Int32) (ru rl up dn : Nat → Int64) (o o' : Int32 × Int32 × (Nat → Int64) × (Nat → Int64)) : Prop :=
  o.2.1 = o'.2.1 ∧ 0 ≤ o.2.1.toInt ∧ (o.2.1 = 0 → o.1 = pe + 1 ∧ o'.1 = pe + 1 ∧ ∃ u d : Int64, ¬ d = 0 ∧ o.2.2.1 = vp_updL ru pe.toNatClampNeg u ∧ o.2.2.2 = vp_updL rl pe.toNatClampNeg d ∧ o'.2.2.1 = vp_updL up pe.toNatClampNeg u ∧ o'.2.2.2 = vp_updL dn pe.toNatClampNeg d)
theorem eo_2 {pe p p' w : Int32} {ru rl up dn a b c d : Nat → Int64} (h : w = 2 ∨ w = 3) : EO pe ru rl up dn (p, w, a, b) (p', w, c, d) := by
  rcases h with h | h <;> rw [h]
  · exact ⟨rfl, show (0 : Int) ≤ (2 : Int32).toInt by decide, fun q => absurd (show (2 : Int32) = 0 from q) (by decide)⟩
  · exact ⟨rfl, show (0 : Int) ≤ (3 : Int32).toInt by decide, fun q => absurd (show (3 : Int32) = 0 from q) (by decide)⟩
theorem sg_eq {va vb : Int64} {pe w : Int32} {ru rl up dn : Nat → Int64} (hw : w = 0 ∨ w = 2) (hb : w = 0 → ¬ vb = 0) (h0 : 0 ≤ pe.toInt) (h1 : pe.toInt < 19) : EO pe ru rl up dn (f_Reckoner_settle va vb pe w ru rl) (f_Model_give va vb pe w up dn) := by
  rcases hw with h | h
  · have hb' := hb h
    subst h
    have s := se_ok (va := va) (ru := ru) (rl := rl) hb' h0 h1
    have g := gv_ok (va := va) (pi := pe) (up := up) (dn := dn) hb'
    by_cases ok : rOK va vb
    · obtain ⟨u, d, e1, e2, e3⟩ := s.1 ok
      obtain ⟨u', d', f1, f2, f3⟩ := g.1 ok
      have eu : u' = u := i64_ext (f1.trans e1.symm)
      have ed : d' = d := i64_ext (f2.trans e2.symm)
      rw [eu, ed] at f3
      rw [e3, f3]
      refine ⟨rfl, show (0 : Int) ≤ (0 : Int32).toInt by decide, fun _ => ⟨rfl, rfl, u, d, fun e => ?_, rfl, rfl, rfl, rfl⟩⟩
      have := rD_pos (va := va) hb'
      rw [← e2, e, i64_0] at this
      omega
    · rw [s.2 ok]
      have e := g.2 ok
      refine ⟨e.symm, show (0 : Int) ≤ (2 : Int32).toInt by decide, fun q => absurd (show (2 : Int32) = 0 from q) (by decide)⟩
  · subst h
    have e1 : f_Reckoner_settle va vb pe 2 ru rl = (pe, 2, ru, rl) := by unfold f_Reckoner_settle; rw [if_neg (by decide)]
    have e2 : f_Model_give va vb pe 2 up dn = (pe, 2, up, dn) := by unfold f_Model_give; rw [if_neg (by decide)]
    rw [e1, e2]
    exact eo_2 (Or.inl rfl)
theorem sr_v {pe : Int32} {f : Nat → Int64} (h1 : 1 ≤ pe.toInt) (h2 : pe.toInt ≤ 19) : f_Reckoner_upper pe 0 f = f (pe - 1).toNatClampNeg ∧ f_Reckoner_lower pe 0 f = f (pe - 1).toNatClampNeg := by
  unfold f_Reckoner_upper f_Reckoner_lower
  rw [if_pos rfl, if_neg (by rw [oi_le, oi_z]; omega), if_neg (by rw [oi_lt, show (19 : Int32).toInt = 19 by decide]; omega)]
  exact ⟨rfl, rfl⟩
theorem i32_ext {x y : Int32} (h : x.toInt = y.toInt) : x = y := Int32.toInt_inj.mp h
theorem pe_2 {pe : Int32} (h : 2 ≤ pe.toInt) : pe - 1 - 1 = pe - 2 := by
  have b := oi_hi pe
  have a1 : (pe - 1).toInt = pe.toInt - 1 := oi_subE rfl oi_1 (by omega) (by omega)
  have a2 : (pe - 1 - 1).toInt = pe.toInt - 1 - 1 := oi_subE a1 oi_1 (by omega) (by omega)
  have a3 : (pe - 2).toInt = pe.toInt - 2 := oi_subE rfl (by decide) (by omega) (by omega)
  apply i32_ext
  rw [a2, a3]
  omega
theorem jo_eq {kd pe : Int32} {ru rl up dn : Nat → Int64} (hk : kd = 42 ∨ kd = 43 ∨ kd = 45 ∨ kd = 47) (h2 : 2 ≤ pe.toInt) (h19 : pe.toInt ≤ 19) (hu : ∀ j, j < pe.toInt.toNat → ru j = up j ∧ rl j = dn j ∧ ¬ dn j = 0) :
    EO (pe - 2) ru rl up dn (f_Reckoner_join kd pe 0 ru rl) (f_Model_operate kd pe 0 up dn) := by
  have u1 := hu _ (rk_i1 h2)
  have u2 := hu _ (rk_i2 h2)
  have s1 : (pe - 1).toInt = pe.toInt - 1 := oi_subE rfl oi_1 (by omega) (by omega)
  have s2 : (pe - 2).toInt = pe.toInt - 2 := oi_subE rfl (by decide) (by omega) (by omega)
  have q1 : f_Reckoner_upper pe 0 ru = up (pe - 1).toNatClampNeg := ((sr_v (by omega) h19).1).trans u1.1
  have q2 : f_Reckoner_lower pe 0 rl = dn (pe - 1).toNatClampNeg := ((sr_v (by omega) h19).2).trans u1.2.1
  have q3 : f_Reckoner_upper (pe - 1) 0 ru = up (pe - 2).toNatClampNeg := by
    rw [(sr_v (pe := pe - 1) (f := ru) (by omega) (by omega)).1, pe_2 h2]
    exact u2.1
  have q4 : f_Reckoner_lower (pe - 1) 0 rl = dn (pe - 2).toNatClampNeg := by
    rw [(sr_v (pe := pe - 1) (f := rl) (by omega) (by omega)).2, pe_2 h2]
    exact u2.2.1
  have p0 : 0 ≤ (pe - 2).toInt := by omega
  have p1 : (pe - 2).toInt < 19 := by omega
  have nb := u2.2.2
  have nd := u1.2.2
  unfold f_Reckoner_join f_Model_operate
  simp only [lt_]
  rw [q1, q2, q3, q4, pe_2 h2]
  generalize up (pe - 1).toNatClampNeg = c at *
  generalize dn (pe - 1).toNatClampNeg = d at *
  generalize up (pe - 2).toNatClampNeg = a at *
  generalize dn (pe - 2).toNatClampNeg = b at *
  have w0 : (0 : Int32) = 0 ∨ (0 : Int32) = 2 := Or.inl rfl
  have pos : ∀ {w : Int32}, w = 0 ∨ w = 2 → 0 ≤ w.toInt := fun h => by rcases h with h | h <;> rw [h] <;> decide
  rcases hk with h | h | h | h
  · subst h
    rw [if_neg (by decide), if_pos rfl, if_neg (by decide), if_neg (by decide), if_pos rfl]
    have w1 := tm_2 a c w0
    rw [pr_tm a c w0, pr_tm b d w1]
    exact sg_eq (tm_2 b d w1) (fun e => tm_nz rfl nb nd (pos w1) (by rw [e]; decide)) p0 p1
  · subst h
    rw [if_neg (by decide), if_neg (by decide), if_pos rfl, if_pos rfl]
    have w1 := tm_2 a d w0
    have w2 := tm_2 c b w1
    rw [pr_tm a d w0, pr_tm c b w1, su_pl _ _ w2]
    have w3 := pl_2 (f_Model_times a d 0).1 (f_Model_times c b (f_Model_times a d 0).2).1 w2
    rw [pr_tm b d w3]
    exact sg_eq (tm_2 b d w3) (fun e => tm_nz rfl nb nd (pos w3) (by rw [e]; decide)) p0 p1
  · subst h
    rw [if_neg (by decide), if_neg (by decide), if_neg (by decide), if_pos rfl, if_neg (by decide), if_pos rfl]
    have w1 := tm_2 a d w0
    have w2 := tm_2 c b w1
    rw [pr_tm a d w0, pr_tm c b w1, di_ls _ _ w2]
    have w3 := ls_2w (f_Model_times a d 0).1 (f_Model_times c b (f_Model_times a d 0).2).1 w2
    rw [pr_tm b d w3]
    exact sg_eq (tm_2 b d w3) (fun e => tm_nz rfl nb nd (pos w3) (by rw [e]; decide)) p0 p1
  · subst h
    rw [if_neg (by decide), if_neg (by decide), if_neg (by decide), if_neg (by decide), if_neg (by decide)]
    by_cases hc : lg_cmp c 0 = 0
    · rw [if_pos hc, if_neg (by decide), if_neg (by decide), if_neg (by decide), if_pos hc, show f_Model_stop 3 0 = 3 from rfl]
      exact eo_2 (Or.inr rfl)
    · rw [if_neg hc, if_neg (by decide), if_neg (by decide), if_neg (by decide), if_neg hc]
      have w1 := tm_2 a d w0
      rw [pr_tm a d w0, pr_tm b c w1]
      exact sg_eq (tm_2 b c w1) (fun e => tm_nz rfl nb (fun e => hc (lc_z.mpr e)) (pos w1) (by rw [e]; decide)) p0 p1
theorem ng_eq {pe : Int32} {ru rl up dn : Nat → Int64} (h1 : 1 ≤ pe.toInt) (h19 : pe.toInt ≤ 19) (hu : ∀ j, j < pe.toInt.toNat → ru j = up j ∧ rl j = dn j ∧ ¬ dn j = 0) :
    EO (pe - 1) ru rl (vp_updL (vp_updL up pe.toNatClampNeg (up (pe - 1).toNatClampNeg)) (pe - 1).toNatClampNeg 0) (vp_updL (vp_updL dn pe.toNatClampNeg (dn (pe - 1).toNatClampNeg)) (pe - 1).toNatClampNeg 1) (f_Reckoner_join 6 pe 0 ru rl) (f_Model_operate 45 (pe + 1) 0 (vp_updL (vp_updL up pe.toNatClampNeg (up (pe - 1).toNatClampNeg)) (pe - 1).toNatClampNeg 0) (vp_updL (vp_updL dn pe.toNatClampNeg (dn (pe - 1).toNatClampNeg)) (pe - 1).toNatClampNeg 1)) := by
  obtain ⟨x1, x2, x3, x4⟩ := rk_x (pi := pe) (by omega) (by omega) (by omega)
  have u1 := hu (pe - 1).toNatClampNeg (by omega)
  have s1 : (pe - 1).toInt = pe.toInt - 1 := oi_subE rfl oi_1 (by omega) (by omega)
  have s2 : (pe + 1).toInt = pe.toInt + 1 := oi_addE rfl oi_1 (by omega) (by omega)
  have s3 : (pe + 1 - 2).toInt = pe.toInt + 1 - 2 := oi_subE s2 (by decide) (by omega) (by omega)
  have s4 : pe + 1 - 2 = pe - 1 := i32_ext (by rw [s3, s1]; omega)
  have q1 : f_Reckoner_upper pe 0 ru = up (pe - 1).toNatClampNeg := ((sr_v (by omega) h19).1).trans u1.1
  have q2 : f_Reckoner_lower pe 0 rl = dn (pe - 1).toNatClampNeg := ((sr_v (by omega) h19).2).trans u1.2.1
  have p0 : 0 ≤ (pe - 1).toInt := by omega
  have p1 : (pe - 1).toInt < 19 := by omega
  have nd := u1.2.2
  generalize hU : vp_updL (vp_updL up pe.toNatClampNeg (up (pe - 1).toNatClampNeg)) (pe - 1).toNatClampNeg 0 = U
  generalize hD : vp_updL (vp_updL dn pe.toNatClampNeg (dn (pe - 1).toNatClampNeg)) (pe - 1).toNatClampNeg 1 = D
  have m1 : U (pe - 1).toNatClampNeg = 0 := by rw [← hU, up_s]
  have m2 : U pe.toNatClampNeg = up (pe - 1).toNatClampNeg := by rw [← hU, up_n _ _ (by omega), up_s]
  have m3 : D (pe - 1).toNatClampNeg = 1 := by rw [← hD, up_s]
  have m4 : D pe.toNatClampNeg = dn (pe - 1).toNatClampNeg := by rw [← hD, up_n _ _ (by omega), up_s]
  unfold f_Reckoner_join f_Model_operate
  simp only [lt_]
  rw [x2, s4, q1, q2, m1, m2, m3, m4]
  generalize up (pe - 1).toNatClampNeg = c at *
  generalize dn (pe - 1).toNatClampNeg = d at *
  have w0 : (0 : Int32) = 0 ∨ (0 : Int32) = 2 := Or.inl rfl
  have pos : ∀ {w : Int32}, w = 0 ∨ w = 2 → 0 ≤ w.toInt := fun h => by rcases h with h | h <;> rw [h] <;> decide
  rw [if_pos trivial, if_neg (by decide), if_neg (by decide), if_neg (by decide), if_pos trivial, if_neg (by decide), if_pos trivial]
  have w1 := tm_2 0 d w0
  have w2 := tm_2 c 1 w1
  rw [pr_tm 0 d w0, pr_tm c 1 w1, di_ls _ _ w2]
  have w3 := ls_2w (f_Model_times 0 d 0).1 (f_Model_times c 1 (f_Model_times 0 d 0).2).1 w2
  rw [pr_tm 1 d w3]
  exact sg_eq (tm_2 1 d w3) (fun e => tm_nz rfl (by decide) nd (pos w3) (by rw [e]; decide)) p0 p1
theorem gv_1 {v : Int64} {pi : Int32} {up dn : Nat → Int64} : f_Model_give v 1 pi 0 up dn = (pi + 1, 0, vp_updL up pi.toNatClampNeg v, vp_updL dn pi.toNatClampNeg 1) := by
  have g := gv_ok (va := v) (vb := 1) (pi := pi) (up := up) (dn := dn) (by decide)
  have h1 : rG v 1 = 1 := by
    unfold rG
    rw [show (1 : Int64).toInt.natAbs = 1 by decide]
    exact Nat.gcd_one_right _
  have hU : rU v 1 = v.toInt := by
    unfold rU
    rw [if_neg (by decide), h1]
    exact Int.ediv_one _
  have hD : rD v 1 = 1 := by
    unfold rD
    rw [if_neg (by decide), h1]
    decide
  have a := i64_hi v
  obtain ⟨u, d, e1, e2, e3⟩ := g.1 ⟨by rw [hU]; exact a, by rw [hD]; decide⟩
  rw [e3, show u = v from i64_ext (e1.trans hU), show d = 1 from i64_ext (by rw [e2, hD]; decide)]
/-! facts: found alike -/
def FR (fz : Int32) (fn : Nat → Int64) (fv : Nat → Int32) (fc : Int32) (gn gv : Nat → Int64) : Prop :=
  fz = fc ∧ 0 ≤ fz.toInt ∧ fz.toInt ≤ 40 ∧ (∀ j : Nat, (j : Int) < fz.toInt → fn j = gn j ∧ (fv j).toInt64 = gv j) ∧ ∀ i j : Nat, (i : Int) < fz.toInt → (j : Int) < fz.toInt → fn i = fn j → i = j
/-- where a name stands among the first n -/
def WH (f : Nat → Int64) (n : Int) (nm : Int64) (x : Int32) : Prop := (x = -1 ∧ ∀ j : Nat, (j : Int) < n → ¬ f j = nm) ∨ (0 ≤ x.toInt ∧ x.toInt < n ∧ f x.toNatClampNeg = nm)
theorem fi_l (nm : Int64) (fz : Int32) (fn : Nat → Int64) (hz : fz.toInt ≤ 40) : ∀ (n : Nat) (i : Int32), 0 ≤ i.toInt → i.toInt + (n : Int) = 41 → (∀ j : Nat, (j : Int) < i.toInt → ¬ fn j = nm) → WH fn fz.toInt nm (f_Facts_find_L2 nm fz fn n i) ∨ n = 0 := by
  intro n
  induction n with
  | zero => intro i _ _ _; exact Or.inr rfl
  | succ n ih =>
    intro i h0 h1 h2
    left
    rw [f_Facts_find_L2_s]
    by_cases c1 : fz ≤ i
    · rw [if_pos c1]
      rw [oi_le] at c1
      exact Or.inl ⟨rfl, fun j hj => h2 j (by omega)⟩
    · rw [if_neg c1]
      rw [oi_le] at c1
      rw [if_neg (by rw [oi_le, show (40 : Int32).toInt = 40 by decide]; omega)]
      by_cases c2 : lg_cmp (fn i.toNatClampNeg) nm = 0
      · rw [if_pos c2]
        exact Or.inr ⟨h0, by omega, lc_z.mp c2⟩
      · rw [if_neg c2]
        have e : (i + 1).toInt = i.toInt + 1 := oi_addE rfl oi_1 (by omega) (by omega)
        have hh : ∀ j : Nat, (j : Int) < (i + 1).toInt → ¬ fn j = nm := fun j hj => by
          by_cases hj2 : j = i.toInt.toNat
          · rw [hj2]; exact fun e => c2 (lc_z.mpr e)
          · exact h2 j (by omega)
        rcases ih (i + 1) (by omega) (by omega) hh with q | q
        · exact q
        · omega
theorem fi_w {nm : Int64} {fz : Int32} {fn : Nat → Int64} (hz : fz.toInt ≤ 40) : WH fn fz.toInt nm (f_Facts_find nm fz fn) := by
  rcases fi_l nm fz fn hz 41 0 (by decide) (by decide) (fun j hj => by rw [oi_z] at hj; omega) with q | q
  · exact q
  · exact absurd q (by decide)
theorem fa_l (nm : Int64) (fc : Int32) (gn : Nat → Int64) : ∀ (n : Nat) (k fo : Int32), 0 ≤ k.toInt → k.toInt ≤ fc.toInt → k.toInt + (n : Int) = fc.toInt + 1 → WH gn k.toInt nm fo → WH gn fc.toInt nm (f_Model_factOf_L5 nm fc gn n k fo) ∨ n = 0 := by
  intro n
  induction n with
  | zero => intro k fo _ _ _ _; exact Or.inr rfl
  | succ n ih =>
    intro k fo h0 h1 h2 h3
    left
    rw [f_Model_factOf_L5_s]
    by_cases c1 : fc ≤ k
    · rw [if_pos c1]
      rw [oi_le] at c1
      rw [show fc.toInt = k.toInt by omega]
      exact h3
    · rw [if_neg c1]
      rw [oi_le] at c1
      have b := oi_hi fc
      have e : (k + 1).toInt = k.toInt + 1 := oi_addE rfl oi_1 (by omega) (by omega)
      by_cases c2 : lg_cmp (gn k.toNatClampNeg) nm = 0
      · rw [if_pos c2]
        rcases ih (k + 1) k (by omega) (by omega) (by omega) (Or.inr ⟨h0, by omega, lc_z.mp c2⟩) with q | q
        · exact q
        · omega
      · rw [if_neg c2]
        have hh : WH gn (k + 1).toInt nm fo := by
          rcases h3 with ⟨a, b⟩ | ⟨a, b, c⟩
          · refine Or.inl ⟨a, fun j hj => ?_⟩
            by_cases hj2 : j = k.toInt.toNat
            · rw [hj2]; exact fun e => c2 (lc_z.mpr e)
            · exact b j (by omega)
          · exact Or.inr ⟨a, by omega, c⟩
        rcases ih (k + 1) fo (by omega) (by omega) (by omega) hh with q | q
        · exact q
        · omega
theorem fa_w {nm : Int64} {fc : Int32} {gn : Nat → Int64} (h0 : 0 ≤ fc.toInt) : WH gn fc.toInt nm (f_Model_factOf nm fc gn) := by
  rcases fa_l nm fc gn (fc.toInt.toNat + 1) 0 (-1) (by decide) (by rw [oi_z]; omega) (by rw [oi_z]; omega) (Or.inl ⟨rfl, fun j hj => by rw [oi_z] at hj; omega⟩) with q | q
  · exact q
  · omega
theorem wh_1 {f : Nat → Int64} {n : Int} {nm : Int64} {x y : Int32} (hd : ∀ i j : Nat, (i : Int) < n → (j : Int) < n → f i = f j → i = j) (hx : WH f n nm x) (hy : WH f n nm y) : x = y := by
  have m1 : (-1 : Int32).toInt = -1 := by decide
  rcases hx with ⟨a, b⟩ | ⟨a, b, c⟩ <;> rcases hy with ⟨p, q⟩ | ⟨p, q, s⟩
  · rw [a, p]
  · exact absurd s (b _ (by show ((y.toInt.toNat : Nat) : Int) < n; omega))
  · exact absurd c (q _ (by show ((x.toInt.toNat : Nat) : Int) < n; omega))
  · have e := hd x.toInt.toNat y.toInt.toNat (by omega) (by omega) (c.trans s.symm)
    exact i32_ext (by omega)
theorem fd_eq {nm : Int64} {fz fc : Int32} {fn gn gv : Nat → Int64} {fv : Nat → Int32} (h : FR fz fn fv fc gn gv) : f_Facts_find nm fz fn = f_Model_factOf nm fc gn ∧ WH fn fz.toInt nm (f_Model_factOf nm fc gn) := by
  obtain ⟨e, h0, h1, h2, h3⟩ := h
  have a := fi_w (nm := nm) (fn := fn) h1
  have b := fa_w (nm := nm) (fc := fc) (gn := gn) (by rw [← e]; exact h0)
  rw [← e] at b ⊢
  have b' : WH fn fz.toInt nm (f_Model_factOf nm fz gn) := by
    rcases b with ⟨p, q⟩ | ⟨p, q, s⟩
    · exact Or.inl ⟨p, fun j hj => by rw [(h2 j hj).1]; exact q j hj⟩
    · refine Or.inr ⟨p, q, ?_⟩
      have hn : (((f_Model_factOf nm fz gn).toNatClampNeg : Nat) : Int) < fz.toInt := by
        show (((f_Model_factOf nm fz gn).toInt.toNat : Nat) : Int) < fz.toInt
        omega
      rw [(h2 _ hn).1]
      exact s
  exact ⟨wh_1 h3 a b', b'⟩
/-! a side's steps -/
def SK (a b : Int32) : Prop := (a = 2 ∧ b = 1) ∨ (a = 3 ∧ b = 2) ∨ (a = 6 ∧ b = 78) ∨ (a = b ∧ (a = 42 ∨ a = 43 ∨ a = 45 ∨ a = 47))
/-- steps that leave one number, with 19 waiting at most -/
def pfx (sk : Nat → Int32) : Nat → Nat → Nat → Prop
  | 0, _, p => p = 1
  | n + 1, k, p => if sk k = 1 ∨ sk k = 2 then p < 19 ∧ pfx sk n (k + 1) (p + 1) else if sk k = 78 then 1 ≤ p ∧ pfx sk n (k + 1) p else 2 ≤ p ∧ pfx sk n (k + 1) (p - 1)
def EV (xe xy : Int32) (xi : Int64) (xu xl : Nat → Int64) (xp xy' : Int32) (xm : Int64) (xu' xd' : Nat → Int64) : Prop :=
  xy = xy' ∧ 0 ≤ xy.toInt ∧ xi = xm ∧ (xy = 0 → xe = xp ∧ 0 ≤ xe.toInt ∧ xe.toInt ≤ 19 ∧ ∀ j, j < xe.toInt.toNat → xu j = xu' j ∧ xl j = xd' j ∧ ¬ xd' j = 0)
def EVr (o o' : Int32 × Int32 × Int64 × (Nat → Int64) × (Nat → Int64)) : Prop := EV o.1 o.2.1 o.2.2.1 o.2.2.2.1 o.2.2.2.2 o'.1 o'.2.1 o'.2.2.1 o'.2.2.2.1 o'.2.2.2.2 ∧ (o.2.1 = 0 → o.1 = 1)
/-- a step's result, put back into the row -/
theorem eo_ev {pe : Int32} {ru rl up dn : Nat → Int64} {o o' : Int32 × Int32 × (Nat → Int64) × (Nat → Int64)} {xi xm : Int64} (h : EO pe ru rl up dn o o') (hm : xi = xm) (h0 : 0 ≤ pe.toInt) (h1 : pe.toInt < 19) (hu : ∀ j, j < pe.toInt.toNat → ru j = up j ∧ rl j = dn j ∧ ¬ dn j = 0) : EV o.1 o.2.1 xi o.2.2.1 o.2.2.2 o'.1 o'.2.1 xm o'.2.2.1 o'.2.2.2 ∧ (o.2.1 = 0 → o.1.toInt = pe.toInt + 1) := by
  obtain ⟨a, b, c⟩ := h
  have e : (pe + 1).toInt = pe.toInt + 1 := oi_addE rfl oi_1 (by omega) (by omega)
  refine ⟨⟨a, b, hm, fun q => ?_⟩, fun q => by rw [(c q).1]; exact e⟩
  obtain ⟨c1, c2, u, d, c3, c4, c5, c6, c7⟩ := c q
  refine ⟨c1.trans c2.symm, by rw [c1]; omega, by rw [c1]; omega, fun j hj => ?_⟩
  rw [c1, e] at hj
  rw [c4, c5, c6, c7]
  by_cases hj2 : j = pe.toNatClampNeg
  · rw [hj2, up_s, up_s, up_s, up_s]
    exact ⟨rfl, rfl, c3⟩
  · rw [up_n _ _ hj2, up_n _ _ hj2, up_n _ _ hj2, up_n _ _ hj2]
    have : pe.toNatClampNeg = pe.toInt.toNat := rfl
    exact hu j (by omega)
theorem pfx_n {sk : Nat → Int32} {n k p : Nat} (h : pfx sk (n + 1) k p) (e : sk k = 1 ∨ sk k = 2) : p < 19 ∧ pfx sk n (k + 1) (p + 1) := by
  unfold pfx at h
  rw [if_pos e] at h
  exact h
theorem pfx_m {sk : Nat → Int32} {n k p : Nat} (h : pfx sk (n + 1) k p) (e : sk k = 78) : 1 ≤ p ∧ pfx sk n (k + 1) p := by
  unfold pfx at h
  rw [if_neg (by rw [e]; decide), if_pos e] at h
  exact h
theorem pfx_o {sk : Nat → Int32} {n k p : Nat} (h : pfx sk (n + 1) k p) (e : sk k = 42 ∨ sk k = 43 ∨ sk k = 45 ∨ sk k = 47) : 2 ≤ p ∧ pfx sk n (k + 1) (p - 1) := by
  unfold pfx at h
  rw [if_neg (by rcases e with e | e | e | e <;> rw [e] <;> decide), if_neg (by rcases e with e | e | e | e <;> rw [e] <;> decide)] at h
  exact h
set_option maxHeartbeats 1000000 in
theorem rs_l {bk : Nat → Int32} {bw : Nat → Int64} {fz : Int32} {fn : Nat → Int64} {fv : Nat → Int32} {sk : Nat → Int32} {sv gn gv : Nat → Int64} {fc : Int32} (hf : FR fz fn fv fc gn gv) (fr bh wy : Int32) (mi : Int64) (ru rl : Nat → Int64) (fr' tq wh : Int32) (ms : Int64) (up dn : Nat → Int64) (hq : tq.toInt = bh.toInt + 240) (hb : bh.toInt ≤ 120) (hs : ∀ k : Nat, (k : Int) < bh.toInt → SK (bk k) (sk (240 + k)) ∧ bw k = sv (240 + k)) :
    ∀ (m : Nat) (i i' xe xy : Int32) (xi : Int64) (xu xl : Nat → Int64) (xp xy' : Int32) (xm : Int64) (xu' xd' : Nat → Int64), (bh.toInt - i.toInt).toNat = m → 0 ≤ i.toInt → i'.toInt = i.toInt + 240 → EV xe xy xi xu xl xp xy' xm xu' xd' → (xy = 0 → pfx sk m (240 + i.toInt.toNat) xe.toInt.toNat) →
      EVr (f_Reckoner_reckonSide_L8 fr bh wy mi ru rl bk bw fz fn fv (m + 1) i xe xy xi xu xl) (f_Model_reckon_L7 fr' tq fc wh ms sk sv gn gv up dn (m + 1) i' xp xy' xm xu' xd') := by
  intro m
  induction m with
  | zero =>
    intro i i' xe xy xi xu xl xp xy' xm xu' xd' hm h0 hi ev pf
    rw [f_Reckoner_reckonSide_L8_s, f_Model_reckon_L7_s, if_pos (by rw [oi_le]; omega), if_pos (by rw [oi_le]; omega)]
    refine ⟨ev, fun q => ?_⟩
    have p1 := pf q
    obtain ⟨-, -, -, e4⟩ := ev
    obtain ⟨-, e5, -, -⟩ := e4 q
    exact i32_ext (by
      have : xe.toInt.toNat = 1 := p1
      rw [oi_1]
      show xe.toInt = 1
      omega)
  | succ m ih =>
    intro i i' xe xy xi xu xl xp xy' xm xu' xd' hm h0 hi ev pf
    rw [f_Reckoner_reckonSide_L8_s, f_Model_reckon_L7_s, if_neg (show ¬ bh ≤ i by rw [oi_le]; omega), if_neg (show ¬ tq ≤ i' by rw [oi_le]; omega)]
    by_cases hy : xy = 0
    · have hy' : xy' = 0 := ev.1.symm.trans hy
      rw [if_pos hy, if_pos hy']
      have p := pf hy
      obtain ⟨e1, e2, e3, e4⟩ := ev
      obtain ⟨exp, x0, x19, xa⟩ := e4 hy
      have st := hs i.toInt.toNat (by omega)
      have ii : i'.toNatClampNeg = 240 + i.toInt.toNat := by
        show i'.toInt.toNat = _
        omega
      have ka : f_Book_kindAt i bk = bk i.toInt.toNat := by
        unfold f_Book_kindAt
        rw [if_neg (by rw [oi_lt, oi_z]; omega), if_neg (by rw [oi_le, show (120 : Int32).toInt = 120 by decide]; omega)]
        rfl
      have wa : f_Book_worthAt i bw = sv i'.toNatClampNeg := by
        unfold f_Book_worthAt
        rw [if_neg (by rw [oi_lt, oi_z]; omega), if_neg (by rw [oi_le, show (120 : Int32).toInt = 120 by decide]; omega), ii]
        exact st.2
      have i1 : (i + 1).toInt = i.toInt + 1 := oi_addE rfl oi_1 (by omega) (by omega)
      have i2 : (i' + 1).toInt = i'.toInt + 1 := oi_addE rfl oi_1 (by omega) (by omega)
      have go : ∀ (we wy_ : Int32) (wi : Int64) (wu wl : Nat → Int64) (wp wy' : Int32) (wm : Int64) (wu' wd' : Nat → Int64), EV we wy_ wi wu wl wp wy' wm wu' wd' → (wy_ = 0 → pfx sk m (240 + i.toInt.toNat + 1) we.toInt.toNat) → EVr (f_Reckoner_reckonSide_L8 fr bh wy mi ru rl bk bw fz fn fv (m + 1) (i + 1) we wy_ wi wu wl) (f_Model_reckon_L7 fr' tq fc wh ms sk sv gn gv up dn (m + 1) (i' + 1) wp wy' wm wu' wd') := by
        intro we wy_ wi wu wl wp wy' wm wu' wd' v1 v2
        refine ih (i + 1) (i' + 1) we wy_ wi wu wl wp wy' wm wu' wd' (by omega) (by omega) (by omega) v1 (fun q => ?_)
        have := v2 q
        rw [show 240 + (i + 1).toInt.toNat = 240 + i.toInt.toNat + 1 by omega]
        exact this
      simp only [lt_]
      rw [ka, wa, hy, hy', ← exp]
      rw [← ii] at p st
      rcases st.1 with ⟨k1, k2⟩ | ⟨k1, k2⟩ | ⟨k1, k2⟩ | ⟨k1, k2⟩
      · rw [k1, k2, if_pos rfl, if_pos rfl]
        obtain ⟨p1, p2⟩ := pfx_n p (Or.inl k2)
        rw [pu_ok x0 (by omega), gv_1]
        have v : EV (xe + 1) 0 xi (vp_updL xu xe.toNatClampNeg (sv i'.toNatClampNeg)) (vp_updL xl xe.toNatClampNeg 1) (xe + 1) 0 xm (vp_updL xu' xe.toNatClampNeg (sv i'.toNatClampNeg)) (vp_updL xd' xe.toNatClampNeg 1) ∧ ((0 : Int32) = 0 → (xe + 1).toInt = xe.toInt + 1) := eo_ev (o := (xe + 1, 0, _, _)) (o' := (xe + 1, 0, _, _)) ⟨rfl, show (0 : Int) ≤ (0 : Int32).toInt by decide, fun _ => ⟨rfl, rfl, _, 1, by decide, rfl, rfl, rfl, rfl⟩⟩ e3 x0 (by omega) xa
        exact go _ _ _ _ _ _ _ _ _ _ v.1 (fun _ => by rw [v.2 rfl, show (xe.toInt + 1).toNat = xe.toInt.toNat + 1 by omega, ← ii]; exact p2)
      · rw [k1, k2, if_neg (by decide), if_pos rfl, if_neg (by decide), if_pos rfl]
        obtain ⟨p1, p2⟩ := pfx_n p (Or.inr k2)
        unfold f_Reckoner_pushFact
        simp only [lt_]
        obtain ⟨g1, g2⟩ := fd_eq (nm := sv i'.toNatClampNeg) hf
        rw [g1]
        generalize f_Model_factOf (sv i'.toNatClampNeg) fc gn = z at g2 ⊢
        rcases g2 with ⟨z1, z2⟩ | ⟨z1, z2, z3⟩
        · rw [z1, if_pos rfl, if_neg (by decide)]
          exact go _ _ _ _ _ _ _ _ _ _ ⟨rfl, by show (0 : Int) ≤ (1 : Int32).toInt; decide, rfl, fun q => absurd (show (1 : Int32) = 0 from q) (by decide)⟩ (fun q => absurd (show (1 : Int32) = 0 from q) (by decide))
        · obtain ⟨-, f0, f40, f2, -⟩ := hf
          have zn : ¬ z = -1 := fun e => by rw [e, show (-1 : Int32).toInt = -1 by decide] at z1; omega
          have va : f_Facts_valueAt z fv = fv z.toNatClampNeg := by
            unfold f_Facts_valueAt
            rw [if_neg (by rw [oi_lt, oi_z]; omega), if_neg (by rw [oi_le, show (40 : Int32).toInt = 40 by decide]; omega)]
          have vb := (f2 z.toNatClampNeg (by show ((z.toInt.toNat : Nat) : Int) < _; omega)).2
          rw [if_neg zn, if_pos (by rw [oi_le, oi_z]; omega), va, vb, pu_ok x0 (by omega), gv_1]
          have v : EV (xe + 1) 0 xi (vp_updL xu xe.toNatClampNeg (gv z.toNatClampNeg)) (vp_updL xl xe.toNatClampNeg 1) (xe + 1) 0 xm (vp_updL xu' xe.toNatClampNeg (gv z.toNatClampNeg)) (vp_updL xd' xe.toNatClampNeg 1) ∧ ((0 : Int32) = 0 → (xe + 1).toInt = xe.toInt + 1) := eo_ev (o := (xe + 1, 0, _, _)) (o' := (xe + 1, 0, _, _)) ⟨rfl, show (0 : Int) ≤ (0 : Int32).toInt by decide, fun _ => ⟨rfl, rfl, _, 1, by decide, rfl, rfl, rfl, rfl⟩⟩ e3 x0 (by omega) xa
          exact go _ _ _ _ _ _ _ _ _ _ v.1 (fun _ => by rw [v.2 rfl, show (xe.toInt + 1).toNat = xe.toInt.toNat + 1 by omega, ← ii]; exact p2)
      · obtain ⟨p1, p2⟩ := pfx_m p k2
        rw [k1, k2, if_neg (by decide), if_neg (by decide), if_neg (by decide), if_neg (by decide), if_pos rfl]
        have x1 : 1 ≤ xe.toInt := by omega
        have s1 : (xe - 1).toInt = xe.toInt - 1 := oi_subE rfl oi_1 (by omega) (by omega)
        have j := ng_eq x1 x19 xa
        have v := eo_ev j e3 (by omega) (by omega) (fun j hj => by
          have n1 : j ≠ (xe - 1).toNatClampNeg := by
            show j ≠ (xe - 1).toInt.toNat
            omega
          have n2 : j ≠ xe.toNatClampNeg := by
            show j ≠ xe.toInt.toNat
            omega
          rw [up_n _ _ n1, up_n _ _ n2, up_n _ _ n1, up_n _ _ n2]
          exact xa j (by omega))
        exact go _ _ _ _ _ _ _ _ _ _ v.1 (fun q => by rw [v.2 q, show (xe - 1).toInt + 1 = xe.toInt by omega, ← ii]; exact p2)
      · have k3 : sk i'.toNatClampNeg = 42 ∨ sk i'.toNatClampNeg = 43 ∨ sk i'.toNatClampNeg = 45 ∨ sk i'.toNatClampNeg = 47 := by rw [← k1]; exact k2
        obtain ⟨p1, p2⟩ := pfx_o p k3
        have x2 : 2 ≤ xe.toInt := by omega
        have s2 : (xe - 2).toInt = xe.toInt - 2 := oi_subE rfl (by decide) (by omega) (by omega)
        rw [k1]
        have n1 : ¬ sk i'.toNatClampNeg = 1 := by rcases k3 with e | e | e | e <;> rw [e] <;> decide
        have n2 : ¬ sk i'.toNatClampNeg = 2 := by rcases k3 with e | e | e | e <;> rw [e] <;> decide
        have n3 : ¬ sk i'.toNatClampNeg = 3 := by rcases k3 with e | e | e | e <;> rw [e] <;> decide
        have n4 : ¬ sk i'.toNatClampNeg = 78 := by rcases k3 with e | e | e | e <;> rw [e] <;> decide
        rw [if_neg n2, if_neg n3, if_neg n1, if_neg n2, if_neg n4]
        have j := jo_eq k3 x2 x19 xa
        have v := eo_ev j e3 (by omega) (by omega) (fun j hj => xa j (by omega))
        exact go _ _ _ _ _ _ _ _ _ _ v.1 (fun q => by rw [v.2 q, show ((xe - 2).toInt + 1).toNat = xe.toInt.toNat - 1 by omega, ← ii]; exact p2)
    · have hy' : ¬ xy' = 0 := fun e => hy (ev.1.trans e)
      rw [if_neg hy, if_neg hy']
      exact ⟨ev, fun q => absurd q hy⟩
/-- a side is reckoned alike -/
theorem rs_eq {bk : Nat → Int32} {bw : Nat → Int64} {fz : Int32} {fn : Nat → Int64} {fv : Nat → Int32} {sk : Nat → Int32} {sv gn gv : Nat → Int64} {fc : Int32} {fr bh fr' tq : Int32} {mi : Int64} {ru rl up dn : Nat → Int64} (hf : FR fz fn fv fc gn gv) (h0 : 0 ≤ fr.toInt) (hi : fr'.toInt = fr.toInt + 240) (hq : tq.toInt = bh.toInt + 240) (hb : bh.toInt ≤ 120) (hs : ∀ k : Nat, (k : Int) < bh.toInt → SK (bk k) (sk (240 + k)) ∧ bw k = sv (240 + k)) (hp : pfx sk (bh.toInt - fr.toInt).toNat (240 + fr.toInt.toNat) 0) :
    EVr (f_Reckoner_reckonSide fr bh 0 mi ru rl bk bw fz fn fv) (f_Model_reckon fr' tq fc 0 mi sk sv gn gv up dn) := by
  unfold f_Reckoner_reckonSide f_Model_reckon
  rw [show (tq.toInt - fr'.toInt).toNat = (bh.toInt - fr.toInt).toNat by omega]
  exact rs_l hf fr bh 0 mi ru rl fr' tq 0 mi up dn hq hb hs _ fr fr' 0 0 mi ru rl 0 0 mi up dn rfl h0 hi ⟨rfl, by decide, rfl, fun _ => ⟨rfl, by decide, by decide, fun j hj => by rw [oi_z] at hj; exact absurd hj (Nat.not_lt_zero _)⟩⟩ (fun _ => hp)
/-! a clause -/
def SGN (a b : Int32) : Prop := (a = 4 ∧ b = 316) ∨ (a = 5 ∧ b = 318) ∨ (a = 60 ∧ b = 60) ∨ (a = 61 ∧ b = 61) ∨ (a = 62 ∧ b = 62)
/-- where the steps of clause c begin -/
def SB0 (br : Nat → Int32) (c : Nat) : Int := if c = 0 then 0 else (br (c - 1)).toInt
def CB (bs bl br sg lf rf ce sk : Nat → Int32) (c : Nat) : Prop :=
  c < 30 ∧ SGN (bs c) (sg (120 + c)) ∧ (lf (120 + c)).toInt = SB0 br c + 240 ∧ (rf (120 + c)).toInt = (bl c).toInt + 240 ∧ (ce (120 + c)).toInt = (br c).toInt + 240 ∧ 0 ≤ SB0 br c ∧ SB0 br c ≤ (bl c).toInt ∧ (bl c).toInt ≤ (br c).toInt ∧ (br c).toInt ≤ 120 ∧ pfx sk ((bl c).toInt - SB0 br c).toNat (240 + (SB0 br c).toNat) 0 ∧ pfx sk ((br c).toInt - (bl c).toInt).toNat (240 + (bl c).toInt.toNat) 0
/-- the answer of a comparison, if both products were numbers -/
theorem cmp_q {a b : Int32} {x y : Int64} (h : SGN a b) : f_Judge_compare a x y = (if b = 60 then (if 0 ≤ lg_cmp x y then (0 : Int32) else 1) else if b = 316 then (if 0 < lg_cmp x y then 0 else 1) else if b = 61 then (if lg_cmp x y = 0 then 1 else 0) else if b = 318 then (if lg_cmp x y < 0 then 0 else 1) else (if lg_cmp x y ≤ 0 then 0 else 1)) := by
  unfold f_Judge_compare
  rcases h with ⟨h, e⟩ | ⟨h, e⟩ | ⟨h, e⟩ | ⟨h, e⟩ | ⟨h, e⟩ <;> rw [h, e] <;> rfl
theorem bo_st {c : Int32} {f : Nat → Int32} (h0 : 0 ≤ c.toInt) (h1 : c.toInt < 30) : f_Book_stepBehindLeft c f = f c.toInt.toNat ∧ f_Book_stepBehindRight c f = f c.toInt.toNat ∧ f_Book_signOf c f = f c.toInt.toNat := by
  unfold f_Book_stepBehindLeft f_Book_stepBehindRight f_Book_signOf
  rw [if_neg (by rw [oi_lt, oi_z]; omega), if_neg (by rw [oi_le, show (30 : Int32).toInt = 30 by decide]; omega), if_neg (by rw [oi_lt, oi_z]; omega), if_neg (by rw [oi_le, show (30 : Int32).toInt = 30 by decide]; omega)]
  exact ⟨rfl, rfl, rfl⟩
theorem bo_fs {c : Int32} {f : Nat → Int32} (h0 : 0 ≤ c.toInt) (h1 : c.toInt < 30) : (f_Book_firstStepOf c f).toInt = SB0 f c.toInt.toNat := by
  have s1 : (c - 1).toInt = c.toInt - 1 := oi_subE rfl oi_1 (by omega) (by omega)
  unfold f_Book_firstStepOf SB0
  simp only [lt_]
  by_cases h : c.toInt = 0
  · rw [if_pos (by omega)]
    unfold f_Book_stepBehindRight
    rw [if_pos (by rw [oi_lt, oi_z]; omega)]
    rfl
  · rw [if_neg (by omega), (bo_st (c := c - 1) (f := f) (by omega) (by omega)).2.1]
    rw [show (c - 1).toInt.toNat = c.toInt.toNat - 1 by omega]
theorem ur_1 {o : Int32 × Int32 × Int64 × (Nat → Int64) × (Nat → Int64)} {o' : Int32 × Int32 × Int64 × (Nat → Int64) × (Nat → Int64)} (h : EVr o o') (hz : o.2.1 = 0) : f_Reckoner_upper o.1 o.2.1 o.2.2.2.1 = o'.2.2.2.1 (0 : Int32).toNatClampNeg ∧ f_Reckoner_lower o.1 o.2.1 o.2.2.2.2 = o'.2.2.2.2 (0 : Int32).toNatClampNeg := by
  obtain ⟨⟨-, -, -, e⟩, e1⟩ := h
  have e1 := e1 hz
  obtain ⟨-, -, -, ea⟩ := e hz
  rw [e1] at ea
  have e0 := ea 0 (by decide)
  rw [e1, hz, (sr_v (by decide) (by decide)).1, (sr_v (by decide) (by decide)).2]
  exact ⟨e0.1, e0.2.1⟩
theorem ur_0 {pe wy : Int32} {f : Nat → Int64} (h : ¬ wy = 0) : f_Reckoner_upper pe wy f = 0 ∧ f_Reckoner_lower pe wy f = 0 := by
  unfold f_Reckoner_upper f_Reckoner_lower
  rw [if_neg h]
  exact ⟨rfl, rfl⟩
