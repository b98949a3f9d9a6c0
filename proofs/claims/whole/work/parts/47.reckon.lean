/-- the steps from k on can be reckoned with p numbers waiting -/
def pfo (sk : Nat → Int32) : Nat → Nat → Nat → Prop
  | 0, _, _ => True
  | n + 1, k, p => if sk k = 1 then p < 129 ∧ pfo sk n (k + 1) (p + 1) else if sk k = 2 then p < 129 ∧ pfo sk n (k + 1) (p + 1) else if sk k = 78 then 1 ≤ p ∧ p < 129 ∧ pfo sk n (k + 1) p else 2 ≤ p ∧ pfo sk n (k + 1) (p - 1)
def RK (sk : Nat → Int32) (tq : Int32) (dn : Nat → Int64) (k pi : Int32) : Prop := 0 ≤ k.toInt ∧ 0 ≤ pi.toInt ∧ pi.toInt ≤ 130 ∧ pfo sk (tq.toInt - k.toInt).toNat k.toInt.toNat pi.toInt.toNat ∧ ∀ j, j < pi.toInt.toNat → ¬ dn j = 0
def PF (sk : Nat → Int32) (fr tq : Int32) : Prop := 0 ≤ fr.toInt ∧ pfo sk (tq.toInt - fr.toInt).toNat fr.toInt.toNat 0
theorem rk_0 {sk : Nat → Int32} {fr tq : Int32} {dn : Nat → Int64} (h : PF sk fr tq) : RK sk tq dn fr 0 := ⟨h.1, by decide, by decide, by rw [oi_z]; exact h.2, fun j hj => by rw [oi_z] at hj; exact absurd hj (Nat.not_lt_zero _)⟩
theorem pf_u {sk : Nat → Int32} {k tq : Int32} {p : Nat} (h : pfo sk (tq.toInt - k.toInt).toNat k.toInt.toNat p) (hk : k.toInt < tq.toInt) (h0 : 0 ≤ k.toInt) : pfo sk ((tq.toInt - (k.toInt + 1)).toNat + 1) k.toInt.toNat p := by
  rw [show (tq.toInt - (k.toInt + 1)).toNat + 1 = (tq.toInt - k.toInt).toNat by omega]
  exact h
theorem pf_1 {sk : Nat → Int32} {k tq : Int32} {p : Nat} (h : pfo sk (tq.toInt - k.toInt).toNat k.toInt.toNat p) (hk : k.toInt < tq.toInt) (h0 : 0 ≤ k.toInt) (e : sk k.toNatClampNeg = 1) : p < 129 ∧ pfo sk (tq.toInt - (k.toInt + 1)).toNat (k.toInt + 1).toNat (p + 1) := by
  have a := pf_u h hk h0
  unfold pfo at a
  rw [if_pos (show sk k.toInt.toNat = 1 from e)] at a
  rw [show (k.toInt + 1).toNat = k.toInt.toNat + 1 by omega]
  exact a
theorem pf_2 {sk : Nat → Int32} {k tq : Int32} {p : Nat} (h : pfo sk (tq.toInt - k.toInt).toNat k.toInt.toNat p) (hk : k.toInt < tq.toInt) (h0 : 0 ≤ k.toInt) (e : sk k.toNatClampNeg = 2) : p < 129 ∧ pfo sk (tq.toInt - (k.toInt + 1)).toNat (k.toInt + 1).toNat (p + 1) := by
  have a := pf_u h hk h0
  unfold pfo at a
  rw [show sk k.toInt.toNat = 2 from e, if_neg (by decide), if_pos rfl] at a
  rw [show (k.toInt + 1).toNat = k.toInt.toNat + 1 by omega]
  exact a
theorem pf_78 {sk : Nat → Int32} {k tq : Int32} {p : Nat} (h : pfo sk (tq.toInt - k.toInt).toNat k.toInt.toNat p) (hk : k.toInt < tq.toInt) (h0 : 0 ≤ k.toInt) (e : sk k.toNatClampNeg = 78) : 1 ≤ p ∧ p < 129 ∧ pfo sk (tq.toInt - (k.toInt + 1)).toNat (k.toInt + 1).toNat p := by
  have a := pf_u h hk h0
  unfold pfo at a
  rw [show sk k.toInt.toNat = 78 from e, if_neg (by decide), if_neg (by decide), if_pos rfl] at a
  rw [show (k.toInt + 1).toNat = k.toInt.toNat + 1 by omega]
  exact a
theorem pf_op {sk : Nat → Int32} {k tq : Int32} {p : Nat} (h : pfo sk (tq.toInt - k.toInt).toNat k.toInt.toNat p) (hk : k.toInt < tq.toInt) (h0 : 0 ≤ k.toInt) (e1 : ¬ sk k.toNatClampNeg = 1) (e2 : ¬ sk k.toNatClampNeg = 2) (e3 : ¬ sk k.toNatClampNeg = 78) : 2 ≤ p ∧ pfo sk (tq.toInt - (k.toInt + 1)).toNat (k.toInt + 1).toNat (p - 1) := by
  have a := pf_u h hk h0
  unfold pfo at a
  rw [if_neg (show ¬ sk k.toInt.toNat = 1 from e1), if_neg (show ¬ sk k.toInt.toNat = 2 from e2), if_neg (show ¬ sk k.toInt.toNat = 78 from e3)] at a
  rw [show (k.toInt + 1).toNat = k.toInt.toNat + 1 by omega]
  exact a
theorem rk_stop {z w : Int32} {P : Prop} (hz : z = f_Model_stop 1 w) (h : w = 0) : (z = 0 → P) ∧ 0 ≤ z.toInt := by
  have e : z = 1 := by rw [hz, h]; rfl
  rw [e]
  exact ⟨fun q => absurd q (by decide), by decide⟩
theorem up_s (f : Nat → Int64) (k : Nat) (x : Int64) : vp_updL f k x k = x := if_pos rfl
theorem up_n (f : Nat → Int64) {k j : Nat} (x : Int64) (h : j ≠ k) : vp_updL f k x j = f j := if_neg h
/-- what give leaves, if nothing stopped it -/
theorem gv_any {z : Int32 × Int32 × (Nat → Int64) × (Nat → Int64)} {va vb : Int64} {pi w : Int32} {up dn : Nat → Int64} (hz : z = f_Model_give va vb pi w up dn) (hw : 0 ≤ w.toInt) (hb : w ≤ 0 → ¬ vb = 0) : 0 ≤ z.2.1.toInt ∧ (z.2.1 = 0 → w = 0 ∧ z.1 = pi + 1 ∧ ∃ u d : Int64, u.toInt = rU va vb ∧ d.toInt = rD va vb ∧ z.2.2.1 = vp_updL up pi.toNatClampNeg u ∧ z.2.2.2 = vp_updL dn pi.toNatClampNeg d ∧ ¬ d = 0) := by
  by_cases h : w = 0
  · have hb' := hb (by rw [h]; decide)
    rw [h] at hz
    have g := gv_ok (va := va) (pi := pi) (up := up) (dn := dn) hb'
    rw [← hz] at g
    by_cases ok : rOK va vb
    · obtain ⟨u, d, e1, e2, e3⟩ := g.1 ok
      rw [e3]
      refine ⟨show (0 : Int) ≤ (0 : Int32).toInt by decide, fun _ => ⟨h, rfl, u, d, e1, e2, rfl, rfl, fun e => ?_⟩⟩
      have := rD_pos (va := va) hb'
      rw [← e2, e, i64_0] at this
      omega
    · have e := g.2 ok
      rw [e]
      exact ⟨by decide, fun q => absurd q (by decide)⟩
  · have hn : ¬ w ≤ 0 := by
      rw [oi_le, oi_z]
      intro q
      exact h (Int32.toInt_inj.mp (by rw [oi_z]; omega))
    have e : z = (pi, w, up, dn) := by rw [hz]; unfold f_Model_give; rw [if_neg hn]
    rw [e]
    exact ⟨hw, fun q => absurd q h⟩
theorem rk_give {z : Int32 × Int32 × (Nat → Int64) × (Nat → Int64)} {va vb : Int64} {pi w : Int32} {up dn : Nat → Int64} {sk : Nat → Int32} {tq k : Int32} (hz : z = f_Model_give va vb pi w up dn) (h : w = 0) (hb : ¬ vb = 0) (hp0 : 0 ≤ pi.toInt) (hp : pi.toInt < 129) (hn : ∀ j, j < pi.toInt.toNat → ¬ dn j = 0) (hk : 0 ≤ k.toInt) (hk2 : k.toInt < tq.toInt) (pf : pfo sk (tq.toInt - (k.toInt + 1)).toNat (k.toInt + 1).toNat (pi.toInt.toNat + 1)) : (z.2.1 = 0 → RK sk tq z.2.2.2 (k + 1) z.1) ∧ 0 ≤ z.2.1.toInt := by
  have g := gv_any hz (by rw [h]; decide) (fun _ => hb)
  refine ⟨fun q => ?_, g.1⟩
  obtain ⟨-, e1, u, d, -, -, -, e2, e3⟩ := g.2 q
  have b1 := oi_hi tq
  have k1 : (k + 1).toInt = k.toInt + 1 := oi_addE rfl oi_1 (by omega) (by omega)
  have p1 : (pi + 1).toInt = pi.toInt + 1 := oi_addE rfl oi_1 (by omega) (by omega)
  rw [e1, e2]
  refine ⟨by rw [k1]; omega, by rw [p1]; omega, by rw [p1]; omega, ?_, fun j hj => ?_⟩
  · rw [k1, p1, show (pi.toInt + 1).toNat = pi.toInt.toNat + 1 by omega]
    exact pf
  · rw [p1] at hj
    by_cases hj2 : j = pi.toNatClampNeg
    · rw [hj2, up_s]; exact e3
    · rw [up_n _ _ hj2]
      have : pi.toNatClampNeg = pi.toInt.toNat := rfl
      exact hn j (by omega)
theorem rk_i2 {pi : Int32} (h : 2 ≤ pi.toInt) : (pi - 2).toNatClampNeg < pi.toInt.toNat := by
  have b := oi_hi pi
  have e : (pi - 2).toInt = pi.toInt - 2 := oi_subE rfl (by decide) (by omega) (by omega)
  show (pi - 2).toInt.toNat < _
  rw [e]
  omega
theorem rk_i1 {pi : Int32} (h : 2 ≤ pi.toInt) : (pi - 1).toNatClampNeg < pi.toInt.toNat := by
  have b := oi_hi pi
  have e : (pi - 1).toInt = pi.toInt - 1 := oi_subE rfl (by decide) (by omega) (by omega)
  show (pi - 1).toInt.toNat < _
  rw [e]
  omega
/-- what operate leaves, if nothing stopped it -/
theorem op_any {z : Int32 × Int32 × (Nat → Int64) × (Nat → Int64)} {kd pi w : Int32} {up dn : Nat → Int64} (hz : z = f_Model_operate kd pi w up dn) (hw : 0 ≤ w.toInt) (hb : ¬ dn (pi - 2).toNatClampNeg = 0) (hd : ¬ dn (pi - 1).toNatClampNeg = 0) : 0 ≤ z.2.1.toInt ∧ (z.2.1 = 0 → z.1 = pi - 2 + 1 ∧ ∃ d : Int64, z.2.2.2 = vp_updL dn (pi - 2).toNatClampNeg d ∧ ¬ d = 0) := by
  have fin : ∀ {va vb : Int64} {w' : Int32}, 0 ≤ w'.toInt → (w' ≤ 0 → ¬ vb = 0) → z = f_Model_give va vb (pi - 2) w' up dn → 0 ≤ z.2.1.toInt ∧ (z.2.1 = 0 → z.1 = pi - 2 + 1 ∧ ∃ d : Int64, z.2.2.2 = vp_updL dn (pi - 2).toNatClampNeg d ∧ ¬ d = 0) := by
    intro va vb w' h1 h2 h3
    have g := gv_any h3 h1 h2
    refine ⟨g.1, fun q => ?_⟩
    obtain ⟨-, e1, u, d, -, -, -, e2, e3⟩ := g.2 q
    exact ⟨e1, d, e2, e3⟩
  unfold f_Model_operate at hz
  simp only [lt_] at hz
  split at hz
  · exact fin (tm_w rfl (pl_w rfl (tm_w rfl (tm_w rfl hw)))) (tm_nz rfl hb hd (pl_w rfl (tm_w rfl (tm_w rfl hw)))) hz
  · split at hz
    · exact fin (tm_w rfl (ls_w rfl (tm_w rfl (tm_w rfl hw)))) (tm_nz rfl hb hd (ls_w rfl (tm_w rfl (tm_w rfl hw)))) hz
    · split at hz
      · exact fin (tm_w rfl (tm_w rfl hw)) (tm_nz rfl hb hd (tm_w rfl hw)) hz
      · split at hz
        · have e : z.2.1 = f_Model_stop 3 w := by rw [hz]
          rw [e]
          refine ⟨st_w 3 w (by decide) hw, fun q => ?_⟩
          unfold f_Model_stop at q
          split at q
          · exact absurd q (by decide)
          · rename_i h; exact absurd q h
        · rename_i h
          exact fin (tm_w rfl (tm_w rfl hw)) (tm_nz rfl hb (oi_nz h) (tm_w rfl hw)) hz
theorem rk_op {z : Int32 × Int32 × (Nat → Int64) × (Nat → Int64)} {kd pi w : Int32} {up dn : Nat → Int64} {sk : Nat → Int32} {tq k : Int32} (hz : z = f_Model_operate kd pi w up dn) (h : w = 0) (r5 : 2 ≤ pi.toInt.toNat ∧ pfo sk (tq.toInt - (k.toInt + 1)).toNat (k.toInt + 1).toNat (pi.toInt.toNat - 1)) (hp : pi.toInt ≤ 130) (hn : ∀ j, j < pi.toInt.toNat → ¬ dn j = 0) (hk : 0 ≤ k.toInt) (hk2 : k.toInt < tq.toInt) : (z.2.1 = 0 → RK sk tq z.2.2.2 (k + 1) z.1) ∧ 0 ≤ z.2.1.toInt := by
  have h2 : 2 ≤ pi.toInt := by have := r5.1; omega
  have g := op_any hz (by rw [h]; decide) (hn _ (rk_i2 h2)) (hn _ (rk_i1 h2))
  refine ⟨fun q => ?_, g.1⟩
  obtain ⟨e1, d, e2, e3⟩ := g.2 q
  have b1 := oi_hi tq
  have k1 : (k + 1).toInt = k.toInt + 1 := oi_addE rfl oi_1 (by omega) (by omega)
  have p0 : (pi - 2).toInt = pi.toInt - 2 := oi_subE rfl (by decide) (by omega) (by omega)
  have p1 : (pi - 2 + 1).toInt = pi.toInt - 2 + 1 := oi_addE p0 oi_1 (by omega) (by omega)
  rw [e1, e2]
  refine ⟨by rw [k1]; omega, by rw [p1]; omega, by rw [p1]; omega, ?_, fun j hj => ?_⟩
  · rw [k1, p1, show (pi.toInt - 2 + 1).toNat = pi.toInt.toNat - 1 by omega]
    exact r5.2
  · rw [p1] at hj
    by_cases hj2 : j = (pi - 2).toNatClampNeg
    · rw [hj2, up_s]; exact e3
    · rw [up_n _ _ hj2]
      exact hn j (by omega)
theorem rk_x {pi : Int32} (h0 : 0 ≤ pi.toInt) (h1 : 1 ≤ pi.toInt.toNat) (h2 : pi.toInt.toNat < 129) : (pi + 1 - 2).toNatClampNeg = (pi - 1).toNatClampNeg ∧ (pi + 1 - 1).toNatClampNeg = pi.toNatClampNeg ∧ (pi - 1).toNatClampNeg = pi.toNatClampNeg - 1 ∧ pi.toNatClampNeg = pi.toInt.toNat := by
  have a1 : (pi + 1).toInt = pi.toInt + 1 := oi_addE rfl oi_1 (by omega) (by omega)
  have a2 : (pi + 1 - 2).toInt = pi.toInt + 1 - 2 := oi_subE a1 (by decide) (by omega) (by omega)
  have a3 : (pi + 1 - 1).toInt = pi.toInt + 1 - 1 := oi_subE a1 oi_1 (by omega) (by omega)
  have a4 : (pi - 1).toInt = pi.toInt - 1 := oi_subE rfl oi_1 (by omega) (by omega)
  refine ⟨?_, ?_, ?_, rfl⟩
  · show (pi + 1 - 2).toInt.toNat = (pi - 1).toInt.toNat
    rw [a2, a4]; omega
  · show (pi + 1 - 1).toInt.toNat = pi.toInt.toNat
    rw [a3]; omega
  · show (pi - 1).toInt.toNat = pi.toInt.toNat - 1
    rw [a4]; omega
theorem rk_nb {pi : Int32} {dn : Nat → Int64} {x : Int64} (h0 : 0 ≤ pi.toInt) (h1 : 1 ≤ pi.toInt.toNat) (h2 : pi.toInt.toNat < 129) : ¬ vp_updL (vp_updL dn pi.toNatClampNeg x) (pi - 1).toNatClampNeg 1 (pi + 1 - 2).toNatClampNeg = 0 := by
  obtain ⟨a, b, c, d⟩ := rk_x h0 h1 h2
  rw [a, up_s]
  decide
theorem rk_nd {pi : Int32} {dn : Nat → Int64} (h0 : 0 ≤ pi.toInt) (h1 : 1 ≤ pi.toInt.toNat) (h2 : pi.toInt.toNat < 129) (hn : ∀ j, j < pi.toInt.toNat → ¬ dn j = 0) : ¬ vp_updL (vp_updL dn pi.toNatClampNeg (dn (pi - 1).toNatClampNeg)) (pi - 1).toNatClampNeg 1 (pi + 1 - 1).toNatClampNeg = 0 := by
  obtain ⟨a, b, c, d⟩ := rk_x h0 h1 h2
  rw [b, up_n _ _ (by omega), up_s]
  exact hn _ (by omega)
theorem rk_neg {z : Int32 × Int32 × (Nat → Int64) × (Nat → Int64)} {kd pi w : Int32} {up dn : Nat → Int64} {sk : Nat → Int32} {tq k : Int32} (hz : z = f_Model_operate kd (pi + 1) w up (vp_updL (vp_updL dn pi.toNatClampNeg (dn (pi - 1).toNatClampNeg)) (pi - 1).toNatClampNeg 1)) (h : w = 0) (h0 : 0 ≤ pi.toInt) (r5 : 1 ≤ pi.toInt.toNat ∧ pi.toInt.toNat < 129 ∧ pfo sk (tq.toInt - (k.toInt + 1)).toNat (k.toInt + 1).toNat pi.toInt.toNat) (hn : ∀ j, j < pi.toInt.toNat → ¬ dn j = 0) (hk : 0 ≤ k.toInt) (hk2 : k.toInt < tq.toInt) : (z.2.1 = 0 → RK sk tq z.2.2.2 (k + 1) z.1) ∧ 0 ≤ z.2.1.toInt := by
  obtain ⟨h1, h2, pf⟩ := r5
  obtain ⟨a, b, c, d⟩ := rk_x h0 h1 h2
  have p1 : (pi + 1).toInt = pi.toInt + 1 := oi_addE rfl oi_1 (by omega) (by omega)
  refine rk_op hz h ⟨by rw [p1]; omega, by rw [p1, show (pi.toInt + 1).toNat - 1 = pi.toInt.toNat by omega]; exact pf⟩ (by rw [p1]; omega) (fun j hj => ?_) hk hk2
  rw [p1] at hj
  by_cases q1 : j = (pi - 1).toNatClampNeg
  · rw [q1, up_s]; decide
  · rw [up_n _ _ q1]
    by_cases q2 : j = pi.toNatClampNeg
    · rw [q2, up_s]; exact hn _ (by omega)
    · rw [up_n _ _ q2]; exact hn j (by omega)
def f_Model_reckon_L7 (fr : Int32) (tq : Int32) (fc : Int32) (wh : Int32) (ms : Int64) (sk : (Nat → Int32)) (sv : (Nat → Int64)) (gn : (Nat → Int64)) (gv : (Nat → Int64)) (up : (Nat → Int64)) (dn : (Nat → Int64)) : Nat → Int32 → Int32 → Int32 → Int64 → (Nat → Int64) → (Nat → Int64) → Int32 × Int32 × Int64 × (Nat → Int64) × (Nat → Int64)
  | 0, _, _, _, _, _, _ => (0, 0, 0, (fun _ => 0), (fun _ => 0))
  | n + 1, i, xp, xy, xm, xu, xd => (if tq ≤ i then (xp, xy, xm, xu, xd) else (if xy = 0 then (if (sk i.toNatClampNeg) = 1 then (lt_ (f_Model_give (sv i.toNatClampNeg) 1 xp xy xu xd) fun z_12 => (f_Model_reckon_L7 fr tq fc wh ms sk sv gn gv up dn n (i + 1) z_12.1 z_12.2.1 xm z_12.2.2.1 z_12.2.2.2)) else (if (sk i.toNatClampNeg) = 2 then (lt_ (f_Model_factOf (sv i.toNatClampNeg) fc gn) fun z_8 => (if 0 ≤ z_8 then (lt_ (f_Model_give (gv z_8.toNatClampNeg) 1 xp xy xu xd) fun z_10 => (f_Model_reckon_L7 fr tq fc wh ms sk sv gn gv up dn n (i + 1) z_10.1 z_10.2.1 xm z_10.2.2.1 z_10.2.2.2)) else (lt_ (f_Model_stop 1 xy) fun z_11 => (f_Model_reckon_L7 fr tq fc wh ms sk sv gn gv up dn n (i + 1) xp z_11 (sv i.toNatClampNeg) xu xd)))) else (if (sk i.toNatClampNeg) = 78 then (lt_ (f_Model_operate 45 (xp + 1) xy (vp_updL (vp_updL xu xp.toNatClampNeg (xu (xp - 1).toNatClampNeg)) (xp - 1).toNatClampNeg 0) (vp_updL (vp_updL xd xp.toNatClampNeg (xd (xp - 1).toNatClampNeg)) (xp - 1).toNatClampNeg 1)) fun z_7 => (f_Model_reckon_L7 fr tq fc wh ms sk sv gn gv up dn n (i + 1) z_7.1 z_7.2.1 xm z_7.2.2.1 z_7.2.2.2)) else (lt_ (f_Model_operate (sk i.toNatClampNeg) xp xy xu xd) fun z_6 => (f_Model_reckon_L7 fr tq fc wh ms sk sv gn gv up dn n (i + 1) z_6.1 z_6.2.1 xm z_6.2.2.1 z_6.2.2.2))))) else (xp, xy, xm, xu, xd)))
theorem f_Model_reckon_L7_s (fr : Int32) (tq : Int32) (fc : Int32) (wh : Int32) (ms : Int64) (sk : (Nat → Int32)) (sv : (Nat → Int64)) (gn : (Nat → Int64)) (gv : (Nat → Int64)) (up : (Nat → Int64)) (dn : (Nat → Int64)) (n : Nat) (i : Int32) (xp : Int32) (xy : Int32) (xm : Int64) (xu : (Nat → Int64)) (xd : (Nat → Int64)) : f_Model_reckon_L7 fr tq fc wh ms sk sv gn gv up dn (n + 1) i xp xy xm xu xd = (if tq ≤ i then (xp, xy, xm, xu, xd) else (if xy = 0 then (if (sk i.toNatClampNeg) = 1 then (lt_ (f_Model_give (sv i.toNatClampNeg) 1 xp xy xu xd) fun z_12 => (f_Model_reckon_L7 fr tq fc wh ms sk sv gn gv up dn n (i + 1) z_12.1 z_12.2.1 xm z_12.2.2.1 z_12.2.2.2)) else (if (sk i.toNatClampNeg) = 2 then (lt_ (f_Model_factOf (sv i.toNatClampNeg) fc gn) fun z_8 => (if 0 ≤ z_8 then (lt_ (f_Model_give (gv z_8.toNatClampNeg) 1 xp xy xu xd) fun z_10 => (f_Model_reckon_L7 fr tq fc wh ms sk sv gn gv up dn n (i + 1) z_10.1 z_10.2.1 xm z_10.2.2.1 z_10.2.2.2)) else (lt_ (f_Model_stop 1 xy) fun z_11 => (f_Model_reckon_L7 fr tq fc wh ms sk sv gn gv up dn n (i + 1) xp z_11 (sv i.toNatClampNeg) xu xd)))) else (if (sk i.toNatClampNeg) = 78 then (lt_ (f_Model_operate 45 (xp + 1) xy (vp_updL (vp_updL xu xp.toNatClampNeg (xu (xp - 1).toNatClampNeg)) (xp - 1).toNatClampNeg 0) (vp_updL (vp_updL xd xp.toNatClampNeg (xd (xp - 1).toNatClampNeg)) (xp - 1).toNatClampNeg 1)) fun z_7 => (f_Model_reckon_L7 fr tq fc wh ms sk sv gn gv up dn n (i + 1) z_7.1 z_7.2.1 xm z_7.2.2.1 z_7.2.2.2)) else (lt_ (f_Model_operate (sk i.toNatClampNeg) xp xy xu xd) fun z_6 => (f_Model_reckon_L7 fr tq fc wh ms sk sv gn gv up dn n (i + 1) z_6.1 z_6.2.1 xm z_6.2.2.1 z_6.2.2.2))))) else (xp, xy, xm, xu, xd))) := rfl
def f_Model_reckon (fr : Int32) (tq : Int32) (fc : Int32) (wh : Int32) (ms : Int64) (sk : (Nat → Int32)) (sv : (Nat → Int64)) (gn : (Nat → Int64)) (gv : (Nat → Int64)) (up : (Nat → Int64)) (dn : (Nat → Int64)) : Int32 × Int32 × Int64 × (Nat → Int64) × (Nat → Int64) := (f_Model_reckon_L7 fr tq fc wh ms sk sv gn gv up dn ((tq.toInt - fr.toInt).toNat + 1) fr 0 wh ms up dn)
abbrev q_Model_reckon (dC : Nat → ClassId) (dI : Nat → Nat → Nat) (cB cI cJ : ClassId) (oM mT mN mD mF mS mL mR mE mK mV mO mA mB mU mW mX mY : Nat) (fr : Int32) (tq : Int32) (th : Int32) (ml : Int32) (ma : Int32) (mk : Int32) (mp : Int32) (mv : Int64) (mw : Int32) (dr : Int32) (dc : Int32) (ds : Int32) (ru : Int32) (cl : Int32) (os : Int32) (fc : Int32) (pi : Int32) (wh : Int32) (ms : Int64) (aq : Int32) (da : Int32) (lu : Int64) (ld : Int64) (qu : Int64) (qd : Int64) (sk : (Nat → Int32)) (sv : (Nat → Int64)) (gn : (Nat → Int64)) (gv : (Nat → Int64)) (up : (Nat → Int64)) (dn : (Nat → Int64)) (A : Nat → Prop) : Array Value → State → Outcome → State → Prop := va_Qv (fun u : Int32 × Int32 × Int64 × (Nat → Int64) × (Nat → Int64) => u = f_Model_reckon fr tq fc wh ms sk sv gn gv up dn) (fun u t => va_P (dC, dI) vwCl [(oM, .inr (8, [.int th, .ref mT, .int ml, .int ma, .int mk, .int mp, .long mv, .int mw, .ref mN, .ref mD, .ref mF, .ref mS, .ref mL, .ref mR, .ref mE, .ref mK, .ref mV, .int dr, .int dc, .int ds, .int ru, .int cl, .ref mO, .int os, .int fc, .ref mA, .ref mB, .ref mU, .ref mW, .int u.1, .int u.2.1, .long u.2.2.1, .int aq, .int da, .ref mX, .ref mY, .long lu, .long ld, .long qu, .long qd])), (mK, .inl (cI, 480, .inl sk)), (mV, .inl (cJ, 480, .inr (.inl sv))), (mA, .inl (cJ, 40, .inr (.inl gn))), (mB, .inl (cJ, 40, .inr (.inl gv))), (mU, .inl (cJ, 130, .inr (.inl u.2.2.2.1))), (mW, .inl (cJ, 130, .inr (.inl u.2.2.2.2)))] t.heap ∧ va_D A [(oM, .inr (8, [.int th, .ref mT, .int ml, .int ma, .int mk, .int mp, .long mv, .int mw, .ref mN, .ref mD, .ref mF, .ref mS, .ref mL, .ref mR, .ref mE, .ref mK, .ref mV, .int dr, .int dc, .int ds, .int ru, .int cl, .ref mO, .int os, .int fc, .ref mA, .ref mB, .ref mU, .ref mW, .int u.1, .int u.2.1, .long u.2.2.1, .int aq, .int da, .ref mX, .ref mY, .long lu, .long ld, .long qu, .long qd])), (mK, .inl (cI, 480, .inl sk)), (mV, .inl (cJ, 480, .inr (.inl sv))), (mA, .inl (cJ, 40, .inr (.inl gn))), (mB, .inl (cJ, 40, .inr (.inl gv))), (mU, .inl (cJ, 130, .inr (.inl u.2.2.2.1))), (mW, .inl (cJ, 130, .inr (.inl u.2.2.2.2)))]) A
set_option maxHeartbeats 4000000 in
set_option maxRecDepth 100000 in
theorem c_Model_reckon (l : Launch) (dC : Nat → ClassId) (dI : Nat → Nat → Nat) (cB cI cJ : ClassId) (oM mT mN mD mF mS mL mR mE mK mV mO mA mB mU mW mX mY : Nat) (sz : Nat) (fr : Int32) (tq : Int32) (th : Int32) (ml : Int32) (ma : Int32) (mk : Int32) (mp : Int32) (mv : Int64) (mw : Int32) (dr : Int32) (dc : Int32) (ds : Int32) (ru : Int32) (cl : Int32) (os : Int32) (fc : Int32) (pi : Int32) (wh : Int32) (ms : Int64) (aq : Int32) (da : Int32) (lu : Int64) (ld : Int64) (qu : Int64) (qd : Int64) (sk : (Nat → Int32)) (sv : (Nat → Int64)) (gn : (Nat → Int64)) (gv : (Nat → Int64)) (up : (Nat → Int64)) (dn : (Nat → Int64)) (hwy : 0 ≤ wh.toInt) (hf0 : 0 ≤ fc.toInt) (hf : fc.toInt ≤ 40) (ht : tq.toInt ≤ 480) (hPF : PF sk fr tq) : Met l y_Model_reckon (cw_Model_reckon :: bgw) { frames := 4, cells := 0, slots := 0, locals := 108 } (va_Pc [.ref oM, .int fr, .int tq] (kb_B dC dI cB cI cJ [(oM, .inr (8, [.int th, .ref mT, .int ml, .int ma, .int mk, .int mp, .long mv, .int mw, .ref mN, .ref mD, .ref mF, .ref mS, .ref mL, .ref mR, .ref mE, .ref mK, .ref mV, .int dr, .int dc, .int ds, .int ru, .int cl, .ref mO, .int os, .int fc, .ref mA, .ref mB, .ref mU, .ref mW, .int pi, .int wh, .long ms, .int aq, .int da, .ref mX, .ref mY, .long lu, .long ld, .long qu, .long qd])), (mK, .inl (cI, 480, .inl sk)), (mV, .inl (cJ, 480, .inr (.inl sv))), (mA, .inl (cJ, 40, .inr (.inl gn))), (mB, .inl (cJ, 40, .inr (.inl gv))), (mU, .inl (cJ, 130, .inr (.inl up))), (mW, .inl (cJ, 130, .inr (.inl dn)))] sz)) (q_Model_reckon dC dI cB cI cJ oM mT mN mD mF mS mL mR mE mK mV mO mA mB mU mW mX mY fr tq th ml ma mk mp mv mw dr dc ds ru cl os fc pi wh ms aq da lu ld qu qd sk sv gn gv up dn (va_A [(oM, .inr (8, [.int th, .ref mT, .int ml, .int ma, .int mk, .int mp, .long mv, .int mw, .ref mN, .ref mD, .ref mF, .ref mS, .ref mL, .ref mR, .ref mE, .ref mK, .ref mV, .int dr, .int dc, .int ds, .int ru, .int cl, .ref mO, .int os, .int fc, .ref mA, .ref mB, .ref mU, .ref mW, .int pi, .int wh, .long ms, .int aq, .int da, .ref mX, .ref mY, .long lu, .long ld, .long qu, .long qd])), (mK, .inl (cI, 480, .inl sk)), (mV, .inl (cJ, 480, .inr (.inl sv))), (mA, .inl (cJ, 40, .inr (.inl gn))), (mB, .inl (cJ, 40, .inr (.inl gv))), (mU, .inl (cJ, 130, .inr (.inl up))), (mW, .inl (cJ, 130, .inr (.inl dn)))] sz)) 0 0 (va_A [(oM, .inr (8, [.int th, .ref mT, .int ml, .int ma, .int mk, .int mp, .long mv, .int mw, .ref mN, .ref mD, .ref mF, .ref mS, .ref mL, .ref mR, .ref mE, .ref mK, .ref mV, .int dr, .int dc, .int ds, .int ru, .int cl, .ref mO, .int os, .int fc, .ref mA, .ref mB, .ref mU, .ref mW, .int pi, .int wh, .long ms, .int aq, .int da, .ref mX, .ref mY, .long lu, .long ld, .long qu, .long qd])), (mK, .inl (cI, 480, .inl sk)), (mV, .inl (cJ, 480, .inr (.inl sv))), (mA, .inl (cJ, 40, .inr (.inl gn))), (mB, .inl (cJ, 40, .inr (.inl gv))), (mU, .inl (cJ, 130, .inr (.inl up))), (mW, .inl (cJ, 130, .inr (.inl dn)))] sz) := by
  refine Met.ofW (cc := prog_10_method_29_code) (maxL := 6) (ret := none) (by decide) rfl ?_
  intro p e s m args below meth c s₁ B hml hv
  obtain ⟨rfl, hsz, hP, hKx, hD0⟩ := hv
  have hx := B.exec
  have hb := B.bytes
  have hr := B.returns
  have hts := atoms_spec (ws := (cw_Model_reckon :: bgw)) B.pre
  have hown : s.vm.findClass "PermitRulesModel" = some m.cls := findClass_of_methodNamed B.named
  have hlocks := B.notSynchronized
  have htb := fun (w : Cond) (h : w ∈ bgw) => hts w (List.mem_cons_of_mem _ h)
  have hK := hKx.1
  subst hsz
  have hD := hD0.self (sz := s.heap.size)
  generalize hAe : va_A [(oM, .inr (8, [.int th, .ref mT, .int ml, .int ma, .int mk, .int mp, .long mv, .int mw, .ref mN, .ref mD, .ref mF, .ref mS, .ref mL, .ref mR, .ref mE, .ref mK, .ref mV, .int dr, .int dc, .int ds, .int ru, .int cl, .ref mO, .int os, .int fc, .ref mA, .ref mB, .ref mU, .ref mW, .int pi, .int wh, .long ms, .int aq, .int da, .ref mX, .ref mY, .long lu, .long ld, .long qu, .long qd])), (mK, .inl (cI, 480, .inl sk)), (mV, .inl (cJ, 480, .inr (.inl sv))), (mA, .inl (cJ, 40, .inr (.inl gn))), (mB, .inl (cJ, 40, .inr (.inl gv))), (mU, .inl (cJ, 130, .inr (.inl up))), (mW, .inl (cJ, 130, .inr (.inl dn)))] s.heap.size = A at hD ⊢
  have hA : ∀ q : Nat, s.heap.size ≤ q → A q := fun q h => by rw [← hAe]; exact Or.inr h
  have hS : va_S A s.heap s.heap [] := va_S.rf
  have hl := lv_entry ([.ref oM, .int fr, .int tq]) (n := 6) (Nat.le_of_ble_eq_true rfl)
  rw [lg_entry_eq]
  generalize (lg_sl ([.ref oM, .int fr, .int tq]) ++ List.replicate (6 - (lg_sl ([.ref oM, .int fr, .int tq])).length) Slot.unset).toArray = ls at hl ⊢
  have hl : lv_has ls 6 [(0, .ref oM), (1, .int fr), (2, .int tq)] := hl
  have hP : va_P (dC, dI) vwCl [(oM, .inr (8, [.int th, .ref mT, .int ml, .int ma, .int mk, .int mp, .long mv, .int mw, .ref mN, .ref mD, .ref mF, .ref mS, .ref mL, .ref mR, .ref mE, .ref mK, .ref mV, .int dr, .int dc, .int ds, .int ru, .int cl, .ref mO, .int os, .int fc, .ref mA, .ref mB, .ref mU, .ref mW, .int pi, .int wh, .long ms, .int aq, .int da, .ref mX, .ref mY, .long lu, .long ld, .long qu, .long qd])), (mK, .inl (cI, 480, .inl sk)), (mV, .inl (cJ, 480, .inr (.inl sv))), (mA, .inl (cJ, 40, .inr (.inl gn))), (mB, .inl (cJ, 40, .inr (.inl gv))), (mU, .inl (cJ, 130, .inr (.inl up))), (mW, .inl (cJ, 130, .inr (.inl dn)))] s.heap := hP
  have hF : f_Model_reckon fr tq fc wh ms sk sv gn gv up dn = (f_Model_reckon_L7 fr tq fc wh ms sk sv gn gv up dn ((tq.toInt - fr.toInt).toNat + 1) fr 0 wh ms up dn) := rfl
  have lp7 : ∀ (n : Nat) (i : Int32) (xp : Int32) (xy : Int32) (xm : Int64) (xu : (Nat → Int64)) (xd : (Nat → Int64)), (xy = 0 → RK sk tq xd i xp) → 0 ≤ xy.toInt → (tq.toInt - i.toInt).toNat < n → f_Model_reckon fr tq fc wh ms sk sv gn gv up dn = f_Model_reckon_L7 fr tq fc wh ms sk sv gn gv up dn n i xp xy xm xu xd → ∀ (H : Heap) (locs : List Loc) (ls : Array Slot), va_P (dC, dI) vwCl [(oM, .inr (8, [.int th, .ref mT, .int ml, .int ma, .int mk, .int mp, .long mv, .int mw, .ref mN, .ref mD, .ref mF, .ref mS, .ref mL, .ref mR, .ref mE, .ref mK, .ref mV, .int dr, .int dc, .int ds, .int ru, .int cl, .ref mO, .int os, .int fc, .ref mA, .ref mB, .ref mU, .ref mW, .int xp, .int xy, .long xm, .int aq, .int da, .ref mX, .ref mY, .long lu, .long ld, .long qu, .long qd])), (mK, .inl (cI, 480, .inl sk)), (mV, .inl (cJ, 480, .inr (.inl sv))), (mA, .inl (cJ, 40, .inr (.inl gn))), (mB, .inl (cJ, 40, .inr (.inl gv))), (mU, .inl (cJ, 130, .inr (.inl xu))), (mW, .inl (cJ, 130, .inr (.inl xd)))] H → va_D A [(oM, .inr (8, [.int th, .ref mT, .int ml, .int ma, .int mk, .int mp, .long mv, .int mw, .ref mN, .ref mD, .ref mF, .ref mS, .ref mL, .ref mR, .ref mE, .ref mK, .ref mV, .int dr, .int dc, .int ds, .int ru, .int cl, .ref mO, .int os, .int fc, .ref mA, .ref mB, .ref mU, .ref mW, .int xp, .int xy, .long xm, .int aq, .int da, .ref mX, .ref mY, .long lu, .long ld, .long qu, .long qd])), (mK, .inl (cI, 480, .inl sk)), (mV, .inl (cJ, 480, .inr (.inl sv))), (mA, .inl (cJ, 40, .inr (.inl gn))), (mB, .inl (cJ, 40, .inr (.inl gv))), (mU, .inl (cJ, 130, .inr (.inl xu))), (mW, .inl (cJ, 130, .inr (.inl xd)))] → va_S A s.heap H locs → lv_has ls 6 [(3, .int i), (0, .ref oM), (1, .int fr), (2, .int tq)] → W p l e (headSpec (cw_Model_reckon :: bgw) { frames := 4, cells := 0, slots := 0, locals := 108 }).room s m ([.ref oM, .int fr, .int tq] : List Value).toArray below meth c H locs 0 0 (MQ below (q_Model_reckon dC dI cB cI cJ oM mT mN mD mF mS mL mR mE mK mV mO mA mB mU mW mX mY fr tq th ml ma mk mp mv mw dr dc ds ru cl os fc pi wh ms aq da lu ld qu qd sk sv gn gv up dn A) ([.ref oM, .int fr, .int tq] : List Value).toArray s 0 0 A) (F0 m 7 ls []) := by
    intro n
    induction n with
    | zero => intro i xp xy xm xu xd hI hy hn; exact absurd hn (Nat.not_lt_zero _)
    | succ n ih =>
      intro i xp xy xm xu xd hI hy hn hF H locs ls hP hD hS hl
      have hF := hF.trans (f_Model_reckon_L7_s fr tq fc wh ms sk sv gn gv up dn n i xp xy xm xu xd)
      refine lv_iload_n hx hb d_Model_reckon_7 rfl (lv_at hl 0 rfl) ?_
      refine lv_iload_n hx hb d_Model_reckon_8 rfl (lv_at hl 3 rfl) ?_
      refine lv_icmp_ge (tgt := 205) hx hb d_Model_reckon_9 (by decide) (fun c_1 => ?_) (fun c_1 => ?_)
      · have hF := hF.trans (if_pos c_1)
        have tc_1 := ti_le (Eq.refl tq.toInt) (Eq.refl i.toInt) c_1
        have hP9 := hP.sub (ws' := [(oM, .inr (8, [.int th, .ref mT, .int ml, .int ma, .int mk, .int mp, .long mv, .int mw, .ref mN, .ref mD, .ref mF, .ref mS, .ref mL, .ref mR, .ref mE, .ref mK, .ref mV, .int dr, .int dc, .int ds, .int ru, .int cl, .ref mO, .int os, .int fc, .ref mA, .ref mB, .ref mU, .ref mW, .int xp, .int xy, .long xm, .int aq, .int da, .ref mX, .ref mY, .long lu, .long ld, .long qu, .long qd])), (mK, .inl (cI, 480, .inl sk)), (mV, .inl (cJ, 480, .inr (.inl sv))), (mA, .inl (cJ, 40, .inr (.inl gn))), (mB, .inl (cJ, 40, .inr (.inl gv))), (mU, .inl (cJ, 130, .inr (.inl xu))), (mW, .inl (cJ, 130, .inr (.inl xd)))]) [0, 1, 2, 3, 4, 5, 6] rfl
        have hD9 := hD.sub (ws' := [(oM, .inr (8, [.int th, .ref mT, .int ml, .int ma, .int mk, .int mp, .long mv, .int mw, .ref mN, .ref mD, .ref mF, .ref mS, .ref mL, .ref mR, .ref mE, .ref mK, .ref mV, .int dr, .int dc, .int ds, .int ru, .int cl, .ref mO, .int os, .int fc, .ref mA, .ref mB, .ref mU, .ref mW, .int xp, .int xy, .long xm, .int aq, .int da, .ref mX, .ref mY, .long lu, .long ld, .long qu, .long qd])), (mK, .inl (cI, 480, .inl sk)), (mV, .inl (cJ, 480, .inr (.inl sv))), (mA, .inl (cJ, 40, .inr (.inl gn))), (mB, .inl (cJ, 40, .inr (.inl gv))), (mU, .inl (cJ, 130, .inr (.inl xu))), (mW, .inl (cJ, 130, .inr (.inl xd)))]) [0, 1, 2, 3, 4, 5, 6] (by decide) rfl
        exact W.vret hx hb hr (fun t ht hW => ⟨⟨(xp, xy, xm, xu, xd), rfl, by rw [hF], by rw [ht]; exact hP9, hD9⟩, hS.F ht⟩) hS.2.2 d_Model_reckon_205
      · have hF := hF.trans (if_neg c_1)
        have tc_1 := ti_nle (Eq.refl tq.toInt) (Eq.refl i.toInt) c_1
        refine lv_aload_n hx hb d_Model_reckon_12 rfl (lv_at hl 1 rfl) ?_
        refine va_get (D := (dC, dI)) (ci := 8) (v := .int xy) (C := "PermitRulesModel") (T := T_Model) (N := 40) hx hb htb in_Model hown hK hP 0 rfl rfl 30 (by decide) (htb _ mb_683) (fun _ h9 => h9) rfl d_Model_reckon_13 ?_
        refine lv_if_ne (tgt := 205) hx hb d_Model_reckon_16 (by decide) (fun c_2 => ?_) (fun c_2 => ?_)
        · have hF := hF.trans (if_neg c_2)
          have tc_2 := ti_ne (Eq.refl xy.toInt) (show (0 : Int32).toInt = 0 by decide) c_2
          have hP9 := hP.sub (ws' := [(oM, .inr (8, [.int th, .ref mT, .int ml, .int ma, .int mk, .int mp, .long mv, .int mw, .ref mN, .ref mD, .ref mF, .ref mS, .ref mL, .ref mR, .ref mE, .ref mK, .ref mV, .int dr, .int dc, .int ds, .int ru, .int cl, .ref mO, .int os, .int fc, .ref mA, .ref mB, .ref mU, .ref mW, .int xp, .int xy, .long xm, .int aq, .int da, .ref mX, .ref mY, .long lu, .long ld, .long qu, .long qd])), (mK, .inl (cI, 480, .inl sk)), (mV, .inl (cJ, 480, .inr (.inl sv))), (mA, .inl (cJ, 40, .inr (.inl gn))), (mB, .inl (cJ, 40, .inr (.inl gv))), (mU, .inl (cJ, 130, .inr (.inl xu))), (mW, .inl (cJ, 130, .inr (.inl xd)))]) [0, 1, 2, 3, 4, 5, 6] rfl
          have hD9 := hD.sub (ws' := [(oM, .inr (8, [.int th, .ref mT, .int ml, .int ma, .int mk, .int mp, .long mv, .int mw, .ref mN, .ref mD, .ref mF, .ref mS, .ref mL, .ref mR, .ref mE, .ref mK, .ref mV, .int dr, .int dc, .int ds, .int ru, .int cl, .ref mO, .int os, .int fc, .ref mA, .ref mB, .ref mU, .ref mW, .int xp, .int xy, .long xm, .int aq, .int da, .ref mX, .ref mY, .long lu, .long ld, .long qu, .long qd])), (mK, .inl (cI, 480, .inl sk)), (mV, .inl (cJ, 480, .inr (.inl sv))), (mA, .inl (cJ, 40, .inr (.inl gn))), (mB, .inl (cJ, 40, .inr (.inl gv))), (mU, .inl (cJ, 130, .inr (.inl xu))), (mW, .inl (cJ, 130, .inr (.inl xd)))]) [0, 1, 2, 3, 4, 5, 6] (by decide) rfl
          exact W.vret hx hb hr (fun t ht hW => ⟨⟨(xp, xy, xm, xu, xd), rfl, by rw [hF], by rw [ht]; exact hP9, hD9⟩, hS.F ht⟩) hS.2.2 d_Model_reckon_205
        · have hF := hF.trans (if_pos c_2)
          have tc_2 := ti_eq (Eq.refl xy.toInt) (show (0 : Int32).toInt = 0 by decide) c_2
          obtain ⟨r0, r1, r2, r3, r4⟩ := hI c_2
          refine lv_aload_n hx hb d_Model_reckon_19 rfl (lv_at hl 1 rfl) ?_
          refine va_get (D := (dC, dI)) (ci := 8) (v := .ref mK) (C := "PermitRulesModel") (T := T_Model) (N := 40) hx hb htb in_Model hown hK hP 0 rfl rfl 15 (by decide) (htb _ mb_668) (fun _ h9 => h9) rfl d_Model_reckon_20 ?_
          refine lv_iload_n hx hb d_Model_reckon_23 rfl (lv_at hl 0 rfl) ?_
          refine va_iald hx hb hK hP 1 1 rfl rfl (ib_in (Eq.refl i.toInt) (by omega) (by omega)) d_Model_reckon_24 ?_
          refine lv_istore (lv' := [(4, .int (sk i.toNatClampNeg)), (3, .int i), (0, .ref oM), (1, .int fr), (2, .int tq)]) hx hb d_Model_reckon_25 hl (by decide) rfl (fun ls hl => ?_)
          refine lv_iload hx hb d_Model_reckon_27 (lv_at hl 0 rfl) ?_
          refine lv_iconst (v := 1) hx hb d_Model_reckon_29 (by decide) ?_
          refine lv_icmp_ne (tgt := 47) hx hb d_Model_reckon_30 (by decide) (fun c_3 => ?_) (fun c_3 => ?_)
          · have hF := hF.trans (if_neg c_3)
            have tc_3 := ti_ne (Eq.refl (sk i.toNatClampNeg).toInt) (show (1 : Int32).toInt = 1 by decide) c_3
            refine lv_iload hx hb d_Model_reckon_47 (lv_at hl 0 rfl) ?_
            refine lv_iconst (v := 2) hx hb d_Model_reckon_49 (by decide) ?_
            refine lv_icmp_ne (tgt := 103) hx hb d_Model_reckon_50 (by decide) (fun c_4 => ?_) (fun c_4 => ?_)
            · have hF := hF.trans (if_neg c_4)
              have tc_4 := ti_ne (Eq.refl (sk i.toNatClampNeg).toInt) (show (2 : Int32).toInt = 2 by decide) c_4
              refine lv_iload hx hb d_Model_reckon_103 (lv_at hl 0 rfl) ?_
              refine lv_bipush (v := 78) hx hb d_Model_reckon_105 (by decide) ?_
              refine lv_icmp_ne (tgt := 193) hx hb d_Model_reckon_107 (by decide) (fun c_5 => ?_) (fun c_5 => ?_)
              · have hF := hF.trans (if_neg c_5)
                have tc_5 := ti_ne (Eq.refl (sk i.toNatClampNeg).toInt) (show (78 : Int32).toInt = 78 by decide) c_5
                have r5 := pf_op r3 (by omega) r0 c_3 c_4 c_5
                refine lv_aload_n hx hb d_Model_reckon_193 rfl (lv_at hl 2 rfl) ?_
                refine lv_iload hx hb d_Model_reckon_194 (lv_at hl 0 rfl) ?_
                have hPc := hP.sub (ws' := [(oM, .inr (8, [.int th, .ref mT, .int ml, .int ma, .int mk, .int mp, .long mv, .int mw, .ref mN, .ref mD, .ref mF, .ref mS, .ref mL, .ref mR, .ref mE, .ref mK, .ref mV, .int dr, .int dc, .int ds, .int ru, .int cl, .ref mO, .int os, .int fc, .ref mA, .ref mB, .ref mU, .ref mW, .int xp, .int xy, .long xm, .int aq, .int da, .ref mX, .ref mY, .long lu, .long ld, .long qu, .long qd])), (mU, .inl (cJ, 130, .inr (.inl xu))), (mW, .inl (cJ, 130, .inr (.inl xd)))]) [0, 5, 6] rfl
                have hDc := hD.sub (ws' := [(oM, .inr (8, [.int th, .ref mT, .int ml, .int ma, .int mk, .int mp, .long mv, .int mw, .ref mN, .ref mD, .ref mF, .ref mS, .ref mL, .ref mR, .ref mE, .ref mK, .ref mV, .int dr, .int dc, .int ds, .int ru, .int cl, .ref mO, .int os, .int fc, .ref mA, .ref mB, .ref mU, .ref mW, .int xp, .int xy, .long xm, .int aq, .int da, .ref mX, .ref mY, .long lu, .long ld, .long qu, .long qd])), (mU, .inl (cJ, 130, .inr (.inl xu))), (mW, .inl (cJ, 130, .inr (.inl xd)))]) [0, 5, 6] (by decide) rfl
                have hFc := va_free (wc := [(oM, .inr (8, [.int th, .ref mT, .int ml, .int ma, .int mk, .int mp, .long mv, .int mw, .ref mN, .ref mD, .ref mF, .ref mS, .ref mL, .ref mR, .ref mE, .ref mK, .ref mV, .int dr, .int dc, .int ds, .int ru, .int cl, .ref mO, .int os, .int fc, .ref mA, .ref mB, .ref mU, .ref mW, .int xp, .int xy, .long xm, .int aq, .int da, .ref mX, .ref mY, .long lu, .long ld, .long qu, .long qd])), (mU, .inl (cJ, 130, .inr (.inl xu))), (mW, .inl (cJ, 130, .inr (.inl xd)))]) hD hS hA [0, 5, 6] rfl
                refine va_callv (va_runV (As := [.int (sk i.toNatClampNeg)]) (rest := []) ⟨hx, hb, hml, hown, htb⟩ (c_Model_operate l dC dI cB cI cJ oM mT mN mD mF mS mL mR mE mK mV mO mA mB mU mW mX mY _ (sk i.toNatClampNeg) th ml ma mk mp mv mw dr dc ds ru cl os fc xp xy xm aq da lu ld qu qd xu xd (by omega) (by have := r5.1; omega) (by omega) (r4 _ (rk_i2 (by have := r5.1; omega))) (r4 _ (rk_i1 (by have := r5.1; omega)))) ⟨callB_of 1 htb (gb_all mb_898) rfl rfl rfl (htb _ mb_9) (htb _ mb_895) (by decide +kernel) ⟨Nat.le_of_ble_eq_true rfl, Nat.le_of_ble_eq_true rfl⟩, htb _ mb_897, htb _ mp_33⟩ ⟨kb_blind, va_recv hK hPc (ci := 8) (q0 := 0) rfl rfl, kb_at hPc hDc hKx⟩ rfl rfl hl.1 rfl (lv_room (Nat.le_of_ble_eq_true rfl)) d_Model_reckon_196 ⟨Nat.le_of_ble_eq_true rfl, Nat.le_of_ble_eq_true rfl⟩) hS (fun q _ h => hFc q h) hFc (fun z_6 t H1 locs ht hvm hw hB hz1 hk1 hS => ?_)
                have hz_6 := hw
                have hF := hF.trans (lt_e hz_6)
                obtain ⟨hP1, hD1⟩ := hB
                rw [ht] at hP1
                obtain ⟨hP, hD⟩ := va_join (wr := [(mK, .inl (cI, 480, .inl sk)), (mV, .inl (cJ, 480, .inr (.inl sv))), (mA, .inl (cJ, 40, .inr (.inl gn))), (mB, .inl (cJ, 40, .inr (.inl gv)))]) (w1 := [(oM, .inr (8, [.int th, .ref mT, .int ml, .int ma, .int mk, .int mp, .long mv, .int mw, .ref mN, .ref mD, .ref mF, .ref mS, .ref mL, .ref mR, .ref mE, .ref mK, .ref mV, .int dr, .int dc, .int ds, .int ru, .int cl, .ref mO, .int os, .int fc, .ref mA, .ref mB, .ref mU, .ref mW, .int z_6.1, .int z_6.2.1, .long xm, .int aq, .int da, .ref mX, .ref mY, .long lu, .long ld, .long qu, .long qd])), (mU, .inl (cJ, 130, .inr (.inl z_6.2.2.1))), (mW, .inl (cJ, 130, .inr (.inl z_6.2.2.2)))]) hP hD [0, 5, 6] [1, 2, 3, 4] rfl rfl (by decide) (by decide) hk1 hFc hP1 hD1
                generalize H1 = H at hP hS ⊢
                have hP : va_P (dC, dI) vwCl [(mK, .inl (cI, 480, .inl sk)), (mV, .inl (cJ, 480, .inr (.inl sv))), (mA, .inl (cJ, 40, .inr (.inl gn))), (mB, .inl (cJ, 40, .inr (.inl gv))), (oM, .inr (8, [.int th, .ref mT, .int ml, .int ma, .int mk, .int mp, .long mv, .int mw, .ref mN, .ref mD, .ref mF, .ref mS, .ref mL, .ref mR, .ref mE, .ref mK, .ref mV, .int dr, .int dc, .int ds, .int ru, .int cl, .ref mO, .int os, .int fc, .ref mA, .ref mB, .ref mU, .ref mW, .int z_6.1, .int z_6.2.1, .long xm, .int aq, .int da, .ref mX, .ref mY, .long lu, .long ld, .long qu, .long qd])), (mU, .inl (cJ, 130, .inr (.inl z_6.2.2.1))), (mW, .inl (cJ, 130, .inr (.inl z_6.2.2.2)))] H := hP
                have hD : va_D A [(mK, .inl (cI, 480, .inl sk)), (mV, .inl (cJ, 480, .inr (.inl sv))), (mA, .inl (cJ, 40, .inr (.inl gn))), (mB, .inl (cJ, 40, .inr (.inl gv))), (oM, .inr (8, [.int th, .ref mT, .int ml, .int ma, .int mk, .int mp, .long mv, .int mw, .ref mN, .ref mD, .ref mF, .ref mS, .ref mL, .ref mR, .ref mE, .ref mK, .ref mV, .int dr, .int dc, .int ds, .int ru, .int cl, .ref mO, .int os, .int fc, .ref mA, .ref mB, .ref mU, .ref mW, .int z_6.1, .int z_6.2.1, .long xm, .int aq, .int da, .ref mX, .ref mY, .long lu, .long ld, .long qu, .long qd])), (mU, .inl (cJ, 130, .inr (.inl z_6.2.2.1))), (mW, .inl (cJ, 130, .inr (.inl z_6.2.2.2)))] := hD
                refine lv_iinc (v := i + 1) (lv' := [(3, .int (i + 1)), (4, .int (sk i.toNatClampNeg)), (0, .ref oM), (1, .int fr), (2, .int tq)]) hx hb d_Model_reckon_199 hl (k := 1) rfl (by first | rfl | decide) (by decide) rfl (fun ls hl => ?_)
                refine lv_goto (tgt := 7) hx hb d_Model_reckon_202 (by decide) ?_
                exact ih (i + 1) z_6.1 z_6.2.1 xm z_6.2.2.1 z_6.2.2.2 (rk_op hz_6 c_2 r5 r2 r4 r0 (by omega)).1 (rk_op (sk := sk) (tq := tq) (k := i) hz_6 c_2 r5 r2 r4 r0 (by omega)).2 (by have q0 := (oi_addE (Eq.refl i.toInt) (show (1 : Int32).toInt = 1 by decide) (by omega) (by omega)); omega) hF _ _ _ (hP.sub [4, 0, 1, 2, 3, 5, 6] rfl) (hD.sub [4, 0, 1, 2, 3, 5, 6] (by decide) rfl) hS (lv_sub hl [0, 2, 3, 4] rfl)
              · have hF := hF.trans (if_pos c_5)
                have tc_5 := ti_eq (Eq.refl (sk i.toNatClampNeg).toInt) (show (78 : Int32).toInt = 78 by decide) c_5
                have r5 := pf_78 r3 (by omega) r0 c_5
                refine lv_aload_n hx hb d_Model_reckon_110 rfl (lv_at hl 2 rfl) ?_
                refine va_get (D := (dC, dI)) (ci := 8) (v := .ref mU) (C := "PermitRulesModel") (T := T_Model) (N := 40) hx hb htb in_Model hown hK hP 0 rfl rfl 27 (by decide) (htb _ mb_680) (fun _ h9 => h9) rfl d_Model_reckon_111 ?_
                refine lv_aload_n hx hb d_Model_reckon_114 rfl (lv_at hl 2 rfl) ?_
                refine va_get (D := (dC, dI)) (ci := 8) (v := .int xp) (C := "PermitRulesModel") (T := T_Model) (N := 40) hx hb htb in_Model hown hK hP 0 rfl rfl 29 (by decide) (htb _ mb_682) (fun _ h9 => h9) rfl d_Model_reckon_115 ?_
                refine lv_aload_n hx hb d_Model_reckon_118 rfl (lv_at hl 2 rfl) ?_
                refine va_get (D := (dC, dI)) (ci := 8) (v := .ref mU) (C := "PermitRulesModel") (T := T_Model) (N := 40) hx hb htb in_Model hown hK hP 0 rfl rfl 27 (by decide) (htb _ mb_680) (fun _ h9 => h9) rfl d_Model_reckon_119 ?_
                refine lv_aload_n hx hb d_Model_reckon_122 rfl (lv_at hl 2 rfl) ?_
                refine va_get (D := (dC, dI)) (ci := 8) (v := .int xp) (C := "PermitRulesModel") (T := T_Model) (N := 40) hx hb htb in_Model hown hK hP 0 rfl rfl 29 (by decide) (htb _ mb_682) (fun _ h9 => h9) rfl d_Model_reckon_123 ?_
                refine lv_iconst (v := 1) hx hb d_Model_reckon_126 (by decide) ?_
                refine lv_isub hx hb d_Model_reckon_127 ?_
                refine va_lald hx hb hK hP 5 2 rfl rfl (ib_in (oi_subE (Eq.refl xp.toInt) (show (1 : Int32).toInt = 1 by decide) (by omega) (by omega)) (by omega) (by omega)) d_Model_reckon_128 ?_
                refine va_last hx hb hK hP hD hS 5 2 rfl rfl (ib_in (Eq.refl xp.toInt) (by omega) (by omega)) d_Model_reckon_129 (fun H locs hP hD hS => ?_)
                have hP : va_P (dC, dI) vwCl [(oM, .inr (8, [.int th, .ref mT, .int ml, .int ma, .int mk, .int mp, .long mv, .int mw, .ref mN, .ref mD, .ref mF, .ref mS, .ref mL, .ref mR, .ref mE, .ref mK, .ref mV, .int dr, .int dc, .int ds, .int ru, .int cl, .ref mO, .int os, .int fc, .ref mA, .ref mB, .ref mU, .ref mW, .int xp, .int xy, .long xm, .int aq, .int da, .ref mX, .ref mY, .long lu, .long ld, .long qu, .long qd])), (mK, .inl (cI, 480, .inl sk)), (mV, .inl (cJ, 480, .inr (.inl sv))), (mA, .inl (cJ, 40, .inr (.inl gn))), (mB, .inl (cJ, 40, .inr (.inl gv))), (mU, .inl (cJ, 130, .inr (.inl (vp_updL xu xp.toNatClampNeg (xu (xp - 1).toNatClampNeg))))), (mW, .inl (cJ, 130, .inr (.inl xd)))] H := hP
                have hD : va_D A [(oM, .inr (8, [.int th, .ref mT, .int ml, .int ma, .int mk, .int mp, .long mv, .int mw, .ref mN, .ref mD, .ref mF, .ref mS, .ref mL, .ref mR, .ref mE, .ref mK, .ref mV, .int dr, .int dc, .int ds, .int ru, .int cl, .ref mO, .int os, .int fc, .ref mA, .ref mB, .ref mU, .ref mW, .int xp, .int xy, .long xm, .int aq, .int da, .ref mX, .ref mY, .long lu, .long ld, .long qu, .long qd])), (mK, .inl (cI, 480, .inl sk)), (mV, .inl (cJ, 480, .inr (.inl sv))), (mA, .inl (cJ, 40, .inr (.inl gn))), (mB, .inl (cJ, 40, .inr (.inl gv))), (mU, .inl (cJ, 130, .inr (.inl (vp_updL xu xp.toNatClampNeg (xu (xp - 1).toNatClampNeg))))), (mW, .inl (cJ, 130, .inr (.inl xd)))] := hD
                refine lv_aload_n hx hb d_Model_reckon_130 rfl (lv_at hl 2 rfl) ?_
                refine va_get (D := (dC, dI)) (ci := 8) (v := .ref mW) (C := "PermitRulesModel") (T := T_Model) (N := 40) hx hb htb in_Model hown hK hP 0 rfl rfl 28 (by decide) (htb _ mb_681) (fun _ h9 => h9) rfl d_Model_reckon_131 ?_
                refine lv_aload_n hx hb d_Model_reckon_134 rfl (lv_at hl 2 rfl) ?_
                refine va_get (D := (dC, dI)) (ci := 8) (v := .int xp) (C := "PermitRulesModel") (T := T_Model) (N := 40) hx hb htb in_Model hown hK hP 0 rfl rfl 29 (by decide) (htb _ mb_682) (fun _ h9 => h9) rfl d_Model_reckon_135 ?_
                refine lv_aload_n hx hb d_Model_reckon_138 rfl (lv_at hl 2 rfl) ?_
                refine va_get (D := (dC, dI)) (ci := 8) (v := .ref mW) (C := "PermitRulesModel") (T := T_Model) (N := 40) hx hb htb in_Model hown hK hP 0 rfl rfl 28 (by decide) (htb _ mb_681) (fun _ h9 => h9) rfl d_Model_reckon_139 ?_
                refine lv_aload_n hx hb d_Model_reckon_142 rfl (lv_at hl 2 rfl) ?_
                refine va_get (D := (dC, dI)) (ci := 8) (v := .int xp) (C := "PermitRulesModel") (T := T_Model) (N := 40) hx hb htb in_Model hown hK hP 0 rfl rfl 29 (by decide) (htb _ mb_682) (fun _ h9 => h9) rfl d_Model_reckon_143 ?_
                refine lv_iconst (v := 1) hx hb d_Model_reckon_146 (by decide) ?_
                refine lv_isub hx hb d_Model_reckon_147 ?_
                refine va_lald hx hb hK hP 6 2 rfl rfl (ib_in (oi_subE (Eq.refl xp.toInt) (show (1 : Int32).toInt = 1 by decide) (by omega) (by omega)) (by omega) (by omega)) d_Model_reckon_148 ?_
                refine va_last hx hb hK hP hD hS 6 2 rfl rfl (ib_in (Eq.refl xp.toInt) (by omega) (by omega)) d_Model_reckon_149 (fun H locs hP hD hS => ?_)
                have hP : va_P (dC, dI) vwCl [(oM, .inr (8, [.int th, .ref mT, .int ml, .int ma, .int mk, .int mp, .long mv, .int mw, .ref mN, .ref mD, .ref mF, .ref mS, .ref mL, .ref mR, .ref mE, .ref mK, .ref mV, .int dr, .int dc, .int ds, .int ru, .int cl, .ref mO, .int os, .int fc, .ref mA, .ref mB, .ref mU, .ref mW, .int xp, .int xy, .long xm, .int aq, .int da, .ref mX, .ref mY, .long lu, .long ld, .long qu, .long qd])), (mK, .inl (cI, 480, .inl sk)), (mV, .inl (cJ, 480, .inr (.inl sv))), (mA, .inl (cJ, 40, .inr (.inl gn))), (mB, .inl (cJ, 40, .inr (.inl gv))), (mU, .inl (cJ, 130, .inr (.inl (vp_updL xu xp.toNatClampNeg (xu (xp - 1).toNatClampNeg))))), (mW, .inl (cJ, 130, .inr (.inl (vp_updL xd xp.toNatClampNeg (xd (xp - 1).toNatClampNeg)))))] H := hP
                have hD : va_D A [(oM, .inr (8, [.int th, .ref mT, .int ml, .int ma, .int mk, .int mp, .long mv, .int mw, .ref mN, .ref mD, .ref mF, .ref mS, .ref mL, .ref mR, .ref mE, .ref mK, .ref mV, .int dr, .int dc, .int ds, .int ru, .int cl, .ref mO, .int os, .int fc, .ref mA, .ref mB, .ref mU, .ref mW, .int xp, .int xy, .long xm, .int aq, .int da, .ref mX, .ref mY, .long lu, .long ld, .long qu, .long qd])), (mK, .inl (cI, 480, .inl sk)), (mV, .inl (cJ, 480, .inr (.inl sv))), (mA, .inl (cJ, 40, .inr (.inl gn))), (mB, .inl (cJ, 40, .inr (.inl gv))), (mU, .inl (cJ, 130, .inr (.inl (vp_updL xu xp.toNatClampNeg (xu (xp - 1).toNatClampNeg))))), (mW, .inl (cJ, 130, .inr (.inl (vp_updL xd xp.toNatClampNeg (xd (xp - 1).toNatClampNeg)))))] := hD
                refine lv_aload_n hx hb d_Model_reckon_150 rfl (lv_at hl 2 rfl) ?_
                refine va_get (D := (dC, dI)) (ci := 8) (v := .ref mU) (C := "PermitRulesModel") (T := T_Model) (N := 40) hx hb htb in_Model hown hK hP 0 rfl rfl 27 (by decide) (htb _ mb_680) (fun _ h9 => h9) rfl d_Model_reckon_151 ?_
                refine lv_aload_n hx hb d_Model_reckon_154 rfl (lv_at hl 2 rfl) ?_
                refine va_get (D := (dC, dI)) (ci := 8) (v := .int xp) (C := "PermitRulesModel") (T := T_Model) (N := 40) hx hb htb in_Model hown hK hP 0 rfl rfl 29 (by decide) (htb _ mb_682) (fun _ h9 => h9) rfl d_Model_reckon_155 ?_
                refine lv_iconst (v := 1) hx hb d_Model_reckon_158 (by decide) ?_
                refine lv_isub hx hb d_Model_reckon_159 ?_
                refine lv_lconst (v := 0) hx hb d_Model_reckon_160 (by decide) ?_
                refine va_last hx hb hK hP hD hS 5 2 rfl rfl (ib_in (oi_subE (Eq.refl xp.toInt) (show (1 : Int32).toInt = 1 by decide) (by omega) (by omega)) (by omega) (by omega)) d_Model_reckon_161 (fun H locs hP hD hS => ?_)
                have hP : va_P (dC, dI) vwCl [(oM, .inr (8, [.int th, .ref mT, .int ml, .int ma, .int mk, .int mp, .long mv, .int mw, .ref mN, .ref mD, .ref mF, .ref mS, .ref mL, .ref mR, .ref mE, .ref mK, .ref mV, .int dr, .int dc, .int ds, .int ru, .int cl, .ref mO, .int os, .int fc, .ref mA, .ref mB, .ref mU, .ref mW, .int xp, .int xy, .long xm, .int aq, .int da, .ref mX, .ref mY, .long lu, .long ld, .long qu, .long qd])), (mK, .inl (cI, 480, .inl sk)), (mV, .inl (cJ, 480, .inr (.inl sv))), (mA, .inl (cJ, 40, .inr (.inl gn))), (mB, .inl (cJ, 40, .inr (.inl gv))), (mU, .inl (cJ, 130, .inr (.inl (vp_updL (vp_updL xu xp.toNatClampNeg (xu (xp - 1).toNatClampNeg)) (xp - 1).toNatClampNeg 0)))), (mW, .inl (cJ, 130, .inr (.inl (vp_updL xd xp.toNatClampNeg (xd (xp - 1).toNatClampNeg)))))] H := hP
                have hD : va_D A [(oM, .inr (8, [.int th, .ref mT, .int ml, .int ma, .int mk, .int mp, .long mv, .int mw, .ref mN, .ref mD, .ref mF, .ref mS, .ref mL, .ref mR, .ref mE, .ref mK, .ref mV, .int dr, .int dc, .int ds, .int ru, .int cl, .ref mO, .int os, .int fc, .ref mA, .ref mB, .ref mU, .ref mW, .int xp, .int xy, .long xm, .int aq, .int da, .ref mX, .ref mY, .long lu, .long ld, .long qu, .long qd])), (mK, .inl (cI, 480, .inl sk)), (mV, .inl (cJ, 480, .inr (.inl sv))), (mA, .inl (cJ, 40, .inr (.inl gn))), (mB, .inl (cJ, 40, .inr (.inl gv))), (mU, .inl (cJ, 130, .inr (.inl (vp_updL (vp_updL xu xp.toNatClampNeg (xu (xp - 1).toNatClampNeg)) (xp - 1).toNatClampNeg 0)))), (mW, .inl (cJ, 130, .inr (.inl (vp_updL xd xp.toNatClampNeg (xd (xp - 1).toNatClampNeg)))))] := hD
                refine lv_aload_n hx hb d_Model_reckon_162 rfl (lv_at hl 2 rfl) ?_
                refine va_get (D := (dC, dI)) (ci := 8) (v := .ref mW) (C := "PermitRulesModel") (T := T_Model) (N := 40) hx hb htb in_Model hown hK hP 0 rfl rfl 28 (by decide) (htb _ mb_681) (fun _ h9 => h9) rfl d_Model_reckon_163 ?_
                refine lv_aload_n hx hb d_Model_reckon_166 rfl (lv_at hl 2 rfl) ?_
                refine va_get (D := (dC, dI)) (ci := 8) (v := .int xp) (C := "PermitRulesModel") (T := T_Model) (N := 40) hx hb htb in_Model hown hK hP 0 rfl rfl 29 (by decide) (htb _ mb_682) (fun _ h9 => h9) rfl d_Model_reckon_167 ?_
                refine lv_iconst (v := 1) hx hb d_Model_reckon_170 (by decide) ?_
                refine lv_isub hx hb d_Model_reckon_171 ?_
                refine lv_lconst (v := 1) hx hb d_Model_reckon_172 (by decide) ?_
                refine va_last hx hb hK hP hD hS 6 2 rfl rfl (ib_in (oi_subE (Eq.refl xp.toInt) (show (1 : Int32).toInt = 1 by decide) (by omega) (by omega)) (by omega) (by omega)) d_Model_reckon_173 (fun H locs hP hD hS => ?_)
                have hP : va_P (dC, dI) vwCl [(oM, .inr (8, [.int th, .ref mT, .int ml, .int ma, .int mk, .int mp, .long mv, .int mw, .ref mN, .ref mD, .ref mF, .ref mS, .ref mL, .ref mR, .ref mE, .ref mK, .ref mV, .int dr, .int dc, .int ds, .int ru, .int cl, .ref mO, .int os, .int fc, .ref mA, .ref mB, .ref mU, .ref mW, .int xp, .int xy, .long xm, .int aq, .int da, .ref mX, .ref mY, .long lu, .long ld, .long qu, .long qd])), (mK, .inl (cI, 480, .inl sk)), (mV, .inl (cJ, 480, .inr (.inl sv))), (mA, .inl (cJ, 40, .inr (.inl gn))), (mB, .inl (cJ, 40, .inr (.inl gv))), (mU, .inl (cJ, 130, .inr (.inl (vp_updL (vp_updL xu xp.toNatClampNeg (xu (xp - 1).toNatClampNeg)) (xp - 1).toNatClampNeg 0)))), (mW, .inl (cJ, 130, .inr (.inl (vp_updL (vp_updL xd xp.toNatClampNeg (xd (xp - 1).toNatClampNeg)) (xp - 1).toNatClampNeg 1))))] H := hP
                have hD : va_D A [(oM, .inr (8, [.int th, .ref mT, .int ml, .int ma, .int mk, .int mp, .long mv, .int mw, .ref mN, .ref mD, .ref mF, .ref mS, .ref mL, .ref mR, .ref mE, .ref mK, .ref mV, .int dr, .int dc, .int ds, .int ru, .int cl, .ref mO, .int os, .int fc, .ref mA, .ref mB, .ref mU, .ref mW, .int xp, .int xy, .long xm, .int aq, .int da, .ref mX, .ref mY, .long lu, .long ld, .long qu, .long qd])), (mK, .inl (cI, 480, .inl sk)), (mV, .inl (cJ, 480, .inr (.inl sv))), (mA, .inl (cJ, 40, .inr (.inl gn))), (mB, .inl (cJ, 40, .inr (.inl gv))), (mU, .inl (cJ, 130, .inr (.inl (vp_updL (vp_updL xu xp.toNatClampNeg (xu (xp - 1).toNatClampNeg)) (xp - 1).toNatClampNeg 0)))), (mW, .inl (cJ, 130, .inr (.inl (vp_updL (vp_updL xd xp.toNatClampNeg (xd (xp - 1).toNatClampNeg)) (xp - 1).toNatClampNeg 1))))] := hD
                refine lv_aload_n hx hb d_Model_reckon_174 rfl (lv_at hl 2 rfl) ?_
                refine lv_dup hx hb d_Model_reckon_175 rfl ?_
                refine va_get (D := (dC, dI)) (ci := 8) (v := .int xp) (C := "PermitRulesModel") (T := T_Model) (N := 40) hx hb htb in_Model hown hK hP 0 rfl rfl 29 (by decide) (htb _ mb_682) (fun _ h9 => h9) rfl d_Model_reckon_176 ?_
                refine lv_iconst (v := 1) hx hb d_Model_reckon_179 (by decide) ?_
                refine lv_iadd hx hb d_Model_reckon_180 ?_
                refine va_put (D := (dC, dI)) (ci := 8) (v := .int (xp + 1)) (ty := .int) (C := "PermitRulesModel") (T := T_Model) (N := 40) hx hb htb in_Model ty_Model to_Model nm_Model hown hK hP hD hS 0 rfl rfl 29 (by decide) (htb _ mb_682) (fun _ h9 => h9) rfl (by decide +kernel) rfl rfl (Nat.le_of_ble_eq_true rfl) d_Model_reckon_181 (fun H locs hP hD hS => ?_)
                have hP : va_P (dC, dI) vwCl [(oM, .inr (8, [.int th, .ref mT, .int ml, .int ma, .int mk, .int mp, .long mv, .int mw, .ref mN, .ref mD, .ref mF, .ref mS, .ref mL, .ref mR, .ref mE, .ref mK, .ref mV, .int dr, .int dc, .int ds, .int ru, .int cl, .ref mO, .int os, .int fc, .ref mA, .ref mB, .ref mU, .ref mW, .int (xp + 1), .int xy, .long xm, .int aq, .int da, .ref mX, .ref mY, .long lu, .long ld, .long qu, .long qd])), (mK, .inl (cI, 480, .inl sk)), (mV, .inl (cJ, 480, .inr (.inl sv))), (mA, .inl (cJ, 40, .inr (.inl gn))), (mB, .inl (cJ, 40, .inr (.inl gv))), (mU, .inl (cJ, 130, .inr (.inl (vp_updL (vp_updL xu xp.toNatClampNeg (xu (xp - 1).toNatClampNeg)) (xp - 1).toNatClampNeg 0)))), (mW, .inl (cJ, 130, .inr (.inl (vp_updL (vp_updL xd xp.toNatClampNeg (xd (xp - 1).toNatClampNeg)) (xp - 1).toNatClampNeg 1))))] H := hP
                have hD : va_D A [(oM, .inr (8, [.int th, .ref mT, .int ml, .int ma, .int mk, .int mp, .long mv, .int mw, .ref mN, .ref mD, .ref mF, .ref mS, .ref mL, .ref mR, .ref mE, .ref mK, .ref mV, .int dr, .int dc, .int ds, .int ru, .int cl, .ref mO, .int os, .int fc, .ref mA, .ref mB, .ref mU, .ref mW, .int (xp + 1), .int xy, .long xm, .int aq, .int da, .ref mX, .ref mY, .long lu, .long ld, .long qu, .long qd])), (mK, .inl (cI, 480, .inl sk)), (mV, .inl (cJ, 480, .inr (.inl sv))), (mA, .inl (cJ, 40, .inr (.inl gn))), (mB, .inl (cJ, 40, .inr (.inl gv))), (mU, .inl (cJ, 130, .inr (.inl (vp_updL (vp_updL xu xp.toNatClampNeg (xu (xp - 1).toNatClampNeg)) (xp - 1).toNatClampNeg 0)))), (mW, .inl (cJ, 130, .inr (.inl (vp_updL (vp_updL xd xp.toNatClampNeg (xd (xp - 1).toNatClampNeg)) (xp - 1).toNatClampNeg 1))))] := hD
                refine lv_aload_n hx hb d_Model_reckon_184 rfl (lv_at hl 2 rfl) ?_
                refine lv_bipush (v := 45) hx hb d_Model_reckon_185 (by decide) ?_
                have hPc := hP.sub (ws' := [(oM, .inr (8, [.int th, .ref mT, .int ml, .int ma, .int mk, .int mp, .long mv, .int mw, .ref mN, .ref mD, .ref mF, .ref mS, .ref mL, .ref mR, .ref mE, .ref mK, .ref mV, .int dr, .int dc, .int ds, .int ru, .int cl, .ref mO, .int os, .int fc, .ref mA, .ref mB, .ref mU, .ref mW, .int (xp + 1), .int xy, .long xm, .int aq, .int da, .ref mX, .ref mY, .long lu, .long ld, .long qu, .long qd])), (mU, .inl (cJ, 130, .inr (.inl (vp_updL (vp_updL xu xp.toNatClampNeg (xu (xp - 1).toNatClampNeg)) (xp - 1).toNatClampNeg 0)))), (mW, .inl (cJ, 130, .inr (.inl (vp_updL (vp_updL xd xp.toNatClampNeg (xd (xp - 1).toNatClampNeg)) (xp - 1).toNatClampNeg 1))))]) [0, 5, 6] rfl
                have hDc := hD.sub (ws' := [(oM, .inr (8, [.int th, .ref mT, .int ml, .int ma, .int mk, .int mp, .long mv, .int mw, .ref mN, .ref mD, .ref mF, .ref mS, .ref mL, .ref mR, .ref mE, .ref mK, .ref mV, .int dr, .int dc, .int ds, .int ru, .int cl, .ref mO, .int os, .int fc, .ref mA, .ref mB, .ref mU, .ref mW, .int (xp + 1), .int xy, .long xm, .int aq, .int da, .ref mX, .ref mY, .long lu, .long ld, .long qu, .long qd])), (mU, .inl (cJ, 130, .inr (.inl (vp_updL (vp_updL xu xp.toNatClampNeg (xu (xp - 1).toNatClampNeg)) (xp - 1).toNatClampNeg 0)))), (mW, .inl (cJ, 130, .inr (.inl (vp_updL (vp_updL xd xp.toNatClampNeg (xd (xp - 1).toNatClampNeg)) (xp - 1).toNatClampNeg 1))))]) [0, 5, 6] (by decide) rfl
                have hFc := va_free (wc := [(oM, .inr (8, [.int th, .ref mT, .int ml, .int ma, .int mk, .int mp, .long mv, .int mw, .ref mN, .ref mD, .ref mF, .ref mS, .ref mL, .ref mR, .ref mE, .ref mK, .ref mV, .int dr, .int dc, .int ds, .int ru, .int cl, .ref mO, .int os, .int fc, .ref mA, .ref mB, .ref mU, .ref mW, .int (xp + 1), .int xy, .long xm, .int aq, .int da, .ref mX, .ref mY, .long lu, .long ld, .long qu, .long qd])), (mU, .inl (cJ, 130, .inr (.inl (vp_updL (vp_updL xu xp.toNatClampNeg (xu (xp - 1).toNatClampNeg)) (xp - 1).toNatClampNeg 0)))), (mW, .inl (cJ, 130, .inr (.inl (vp_updL (vp_updL xd xp.toNatClampNeg (xd (xp - 1).toNatClampNeg)) (xp - 1).toNatClampNeg 1))))]) hD hS hA [0, 5, 6] rfl
                refine va_callv (va_runV (As := [.int 45]) (rest := []) ⟨hx, hb, hml, hown, htb⟩ (c_Model_operate l dC dI cB cI cJ oM mT mN mD mF mS mL mR mE mK mV mO mA mB mU mW mX mY _ 45 th ml ma mk mp mv mw dr dc ds ru cl os fc (xp + 1) xy xm aq da lu ld qu qd (vp_updL (vp_updL xu xp.toNatClampNeg (xu (xp - 1).toNatClampNeg)) (xp - 1).toNatClampNeg 0) (vp_updL (vp_updL xd xp.toNatClampNeg (xd (xp - 1).toNatClampNeg)) (xp - 1).toNatClampNeg 1) (by omega) (by have q0 := (oi_addE (Eq.refl xp.toInt) (show (1 : Int32).toInt = 1 by decide) (by omega) (by omega)); omega) (by have q0 := (oi_addE (Eq.refl xp.toInt) (show (1 : Int32).toInt = 1 by decide) (by omega) (by omega)); omega) (rk_nb r1 r5.1 r5.2.1) (rk_nd r1 r5.1 r5.2.1 r4)) ⟨callB_of 1 htb (gb_all mb_898) rfl rfl rfl (htb _ mb_9) (htb _ mb_895) (by decide +kernel) ⟨Nat.le_of_ble_eq_true rfl, Nat.le_of_ble_eq_true rfl⟩, htb _ mb_897, htb _ mp_33⟩ ⟨kb_blind, va_recv hK hPc (ci := 8) (q0 := 0) rfl rfl, kb_at hPc hDc hKx⟩ rfl rfl hl.1 rfl (lv_room (Nat.le_of_ble_eq_true rfl)) d_Model_reckon_187 ⟨Nat.le_of_ble_eq_true rfl, Nat.le_of_ble_eq_true rfl⟩) hS (fun q _ h => hFc q h) hFc (fun z_7 t H1 locs ht hvm hw hB hz1 hk1 hS => ?_)
                have hz_7 := hw
                have hF := hF.trans (lt_e hz_7)
                obtain ⟨hP1, hD1⟩ := hB
                rw [ht] at hP1
                obtain ⟨hP, hD⟩ := va_join (wr := [(mK, .inl (cI, 480, .inl sk)), (mV, .inl (cJ, 480, .inr (.inl sv))), (mA, .inl (cJ, 40, .inr (.inl gn))), (mB, .inl (cJ, 40, .inr (.inl gv)))]) (w1 := [(oM, .inr (8, [.int th, .ref mT, .int ml, .int ma, .int mk, .int mp, .long mv, .int mw, .ref mN, .ref mD, .ref mF, .ref mS, .ref mL, .ref mR, .ref mE, .ref mK, .ref mV, .int dr, .int dc, .int ds, .int ru, .int cl, .ref mO, .int os, .int fc, .ref mA, .ref mB, .ref mU, .ref mW, .int z_7.1, .int z_7.2.1, .long xm, .int aq, .int da, .ref mX, .ref mY, .long lu, .long ld, .long qu, .long qd])), (mU, .inl (cJ, 130, .inr (.inl z_7.2.2.1))), (mW, .inl (cJ, 130, .inr (.inl z_7.2.2.2)))]) hP hD [0, 5, 6] [1, 2, 3, 4] rfl rfl (by decide) (by decide) hk1 hFc hP1 hD1
                generalize H1 = H at hP hS ⊢
                have hP : va_P (dC, dI) vwCl [(mK, .inl (cI, 480, .inl sk)), (mV, .inl (cJ, 480, .inr (.inl sv))), (mA, .inl (cJ, 40, .inr (.inl gn))), (mB, .inl (cJ, 40, .inr (.inl gv))), (oM, .inr (8, [.int th, .ref mT, .int ml, .int ma, .int mk, .int mp, .long mv, .int mw, .ref mN, .ref mD, .ref mF, .ref mS, .ref mL, .ref mR, .ref mE, .ref mK, .ref mV, .int dr, .int dc, .int ds, .int ru, .int cl, .ref mO, .int os, .int fc, .ref mA, .ref mB, .ref mU, .ref mW, .int z_7.1, .int z_7.2.1, .long xm, .int aq, .int da, .ref mX, .ref mY, .long lu, .long ld, .long qu, .long qd])), (mU, .inl (cJ, 130, .inr (.inl z_7.2.2.1))), (mW, .inl (cJ, 130, .inr (.inl z_7.2.2.2)))] H := hP
                have hD : va_D A [(mK, .inl (cI, 480, .inl sk)), (mV, .inl (cJ, 480, .inr (.inl sv))), (mA, .inl (cJ, 40, .inr (.inl gn))), (mB, .inl (cJ, 40, .inr (.inl gv))), (oM, .inr (8, [.int th, .ref mT, .int ml, .int ma, .int mk, .int mp, .long mv, .int mw, .ref mN, .ref mD, .ref mF, .ref mS, .ref mL, .ref mR, .ref mE, .ref mK, .ref mV, .int dr, .int dc, .int ds, .int ru, .int cl, .ref mO, .int os, .int fc, .ref mA, .ref mB, .ref mU, .ref mW, .int z_7.1, .int z_7.2.1, .long xm, .int aq, .int da, .ref mX, .ref mY, .long lu, .long ld, .long qu, .long qd])), (mU, .inl (cJ, 130, .inr (.inl z_7.2.2.1))), (mW, .inl (cJ, 130, .inr (.inl z_7.2.2.2)))] := hD
                refine lv_goto (tgt := 199) hx hb d_Model_reckon_190 (by decide) ?_
                refine lv_iinc (v := i + 1) (lv' := [(3, .int (i + 1)), (4, .int (sk i.toNatClampNeg)), (0, .ref oM), (1, .int fr), (2, .int tq)]) hx hb d_Model_reckon_199 hl (k := 1) rfl (by first | rfl | decide) (by decide) rfl (fun ls hl => ?_)
                refine lv_goto (tgt := 7) hx hb d_Model_reckon_202 (by decide) ?_
                exact ih (i + 1) z_7.1 z_7.2.1 xm z_7.2.2.1 z_7.2.2.2 (rk_neg hz_7 c_2 r1 r5 r4 r0 (by omega)).1 (rk_neg (sk := sk) (tq := tq) (k := i) hz_7 c_2 r1 r5 r4 r0 (by omega)).2 (by have q0 := (oi_addE (Eq.refl i.toInt) (show (1 : Int32).toInt = 1 by decide) (by omega) (by omega)); omega) hF _ _ _ (hP.sub [4, 0, 1, 2, 3, 5, 6] rfl) (hD.sub [4, 0, 1, 2, 3, 5, 6] (by decide) rfl) hS (lv_sub hl [0, 2, 3, 4] rfl)
            · have hF := hF.trans (if_pos c_4)
              have tc_4 := ti_eq (Eq.refl (sk i.toNatClampNeg).toInt) (show (2 : Int32).toInt = 2 by decide) c_4
              have r5 := pf_2 r3 (by omega) r0 c_4
              refine lv_aload_n hx hb d_Model_reckon_53 rfl (lv_at hl 2 rfl) ?_
              refine lv_aload_n hx hb d_Model_reckon_54 rfl (lv_at hl 2 rfl) ?_
              refine va_get (D := (dC, dI)) (ci := 8) (v := .ref mV) (C := "PermitRulesModel") (T := T_Model) (N := 40) hx hb htb in_Model hown hK hP 0 rfl rfl 16 (by decide) (htb _ mb_669) (fun _ h9 => h9) rfl d_Model_reckon_55 ?_
              refine lv_iload_n hx hb d_Model_reckon_58 rfl (lv_at hl 1 rfl) ?_
              refine va_lald hx hb hK hP 2 2 rfl rfl (ib_in (Eq.refl i.toInt) (by omega) (by omega)) d_Model_reckon_59 ?_
              have hPc := hP.sub (ws' := [(oM, .inr (8, [.int th, .ref mT, .int ml, .int ma, .int mk, .int mp, .long mv, .int mw, .ref mN, .ref mD, .ref mF, .ref mS, .ref mL, .ref mR, .ref mE, .ref mK, .ref mV, .int dr, .int dc, .int ds, .int ru, .int cl, .ref mO, .int os, .int fc, .ref mA, .ref mB, .ref mU, .ref mW, .int xp, .int xy, .long xm, .int aq, .int da, .ref mX, .ref mY, .long lu, .long ld, .long qu, .long qd])), (mA, .inl (cJ, 40, .inr (.inl gn)))]) [0, 3] rfl
              have hDc := hD.sub (ws' := [(oM, .inr (8, [.int th, .ref mT, .int ml, .int ma, .int mk, .int mp, .long mv, .int mw, .ref mN, .ref mD, .ref mF, .ref mS, .ref mL, .ref mR, .ref mE, .ref mK, .ref mV, .int dr, .int dc, .int ds, .int ru, .int cl, .ref mO, .int os, .int fc, .ref mA, .ref mB, .ref mU, .ref mW, .int xp, .int xy, .long xm, .int aq, .int da, .ref mX, .ref mY, .long lu, .long ld, .long qu, .long qd])), (mA, .inl (cJ, 40, .inr (.inl gn)))]) [0, 3] (by decide) rfl
              have hFc := va_free (wc := [(oM, .inr (8, [.int th, .ref mT, .int ml, .int ma, .int mk, .int mp, .long mv, .int mw, .ref mN, .ref mD, .ref mF, .ref mS, .ref mL, .ref mR, .ref mE, .ref mK, .ref mV, .int dr, .int dc, .int ds, .int ru, .int cl, .ref mO, .int os, .int fc, .ref mA, .ref mB, .ref mU, .ref mW, .int xp, .int xy, .long xm, .int aq, .int da, .ref mX, .ref mY, .long lu, .long ld, .long qu, .long qd])), (mA, .inl (cJ, 40, .inr (.inl gn)))]) hD hS hA [0, 3] rfl
              refine va_calli (va_runV (As := [.long (sv i.toNatClampNeg)]) (rest := []) ⟨hx, hb, hml, hown, htb⟩ (c_Model_factOf l dC dI cB cI cJ oM mT mN mD mF mS mL mR mE mK mV mO mA mB mU mW mX mY _ (sv i.toNatClampNeg) th ml ma mk mp mv mw dr dc ds ru cl os fc xp xy xm aq da lu ld qu qd gn (by omega) (by omega)) ⟨callB_of 1 htb (gb_all mb_854) rfl rfl rfl (htb _ mb_9) (htb _ mb_851) (by decide +kernel) ⟨Nat.le_of_ble_eq_true rfl, Nat.le_of_ble_eq_true rfl⟩, htb _ mb_853, htb _ mp_26⟩ ⟨kb_blind, va_recv hK hPc (ci := 8) (q0 := 0) rfl rfl, kb_at hPc hDc hKx⟩ rfl rfl hl.1 rfl (lv_room (Nat.le_of_ble_eq_true rfl)) d_Model_reckon_60 ⟨Nat.le_of_ble_eq_true rfl, Nat.le_of_ble_eq_true rfl⟩) hS (fun q _ h => hFc q h) hFc (fun z_8 u t H1 locs ht hvm hw hB hz1 hk1 hS => ?_)
              have hz_8 := hw
              have hF := hF.trans (lt_e hz_8)
              obtain ⟨hP1, hD1⟩ := hB
              rw [ht] at hP1
              obtain ⟨hP, hD⟩ := va_join (wr := [(mK, .inl (cI, 480, .inl sk)), (mV, .inl (cJ, 480, .inr (.inl sv))), (mB, .inl (cJ, 40, .inr (.inl gv))), (mU, .inl (cJ, 130, .inr (.inl xu))), (mW, .inl (cJ, 130, .inr (.inl xd)))]) (w1 := [(oM, .inr (8, [.int th, .ref mT, .int ml, .int ma, .int mk, .int mp, .long mv, .int mw, .ref mN, .ref mD, .ref mF, .ref mS, .ref mL, .ref mR, .ref mE, .ref mK, .ref mV, .int dr, .int dc, .int ds, .int ru, .int cl, .ref mO, .int os, .int fc, .ref mA, .ref mB, .ref mU, .ref mW, .int xp, .int xy, .long xm, .int aq, .int da, .ref mX, .ref mY, .long lu, .long ld, .long qu, .long qd])), (mA, .inl (cJ, 40, .inr (.inl gn)))]) hP hD [0, 3] [1, 2, 4, 5, 6] rfl rfl (by decide) (by decide) hk1 hFc hP1 hD1
              generalize H1 = H at hP hS ⊢
              have hP : va_P (dC, dI) vwCl [(mK, .inl (cI, 480, .inl sk)), (mV, .inl (cJ, 480, .inr (.inl sv))), (mB, .inl (cJ, 40, .inr (.inl gv))), (mU, .inl (cJ, 130, .inr (.inl xu))), (mW, .inl (cJ, 130, .inr (.inl xd))), (oM, .inr (8, [.int th, .ref mT, .int ml, .int ma, .int mk, .int mp, .long mv, .int mw, .ref mN, .ref mD, .ref mF, .ref mS, .ref mL, .ref mR, .ref mE, .ref mK, .ref mV, .int dr, .int dc, .int ds, .int ru, .int cl, .ref mO, .int os, .int fc, .ref mA, .ref mB, .ref mU, .ref mW, .int xp, .int xy, .long xm, .int aq, .int da, .ref mX, .ref mY, .long lu, .long ld, .long qu, .long qd])), (mA, .inl (cJ, 40, .inr (.inl gn)))] H := hP
              have hD : va_D A [(mK, .inl (cI, 480, .inl sk)), (mV, .inl (cJ, 480, .inr (.inl sv))), (mB, .inl (cJ, 40, .inr (.inl gv))), (mU, .inl (cJ, 130, .inr (.inl xu))), (mW, .inl (cJ, 130, .inr (.inl xd))), (oM, .inr (8, [.int th, .ref mT, .int ml, .int ma, .int mk, .int mp, .long mv, .int mw, .ref mN, .ref mD, .ref mF, .ref mS, .ref mL, .ref mR, .ref mE, .ref mK, .ref mV, .int dr, .int dc, .int ds, .int ru, .int cl, .ref mO, .int os, .int fc, .ref mA, .ref mB, .ref mU, .ref mW, .int xp, .int xy, .long xm, .int aq, .int da, .ref mX, .ref mY, .long lu, .long ld, .long qu, .long qd])), (mA, .inl (cJ, 40, .inr (.inl gn)))] := hD
              have ez_8 := fo_b hz_8 (by omega)
              refine lv_istore (lv' := [(5, .int z_8), (4, .int (sk i.toNatClampNeg)), (3, .int i), (0, .ref oM), (1, .int fr), (2, .int tq)]) hx hb d_Model_reckon_63 hl (by decide) rfl (fun ls hl => ?_)
              refine lv_iload hx hb d_Model_reckon_65 (lv_at hl 0 rfl) ?_
              refine lv_if_ge (tgt := 88) hx hb d_Model_reckon_67 (by decide) (fun c_9 => ?_) (fun c_9 => ?_)
              · have hF := hF.trans (if_pos c_9)
                have tc_9 := ti_le (show (0 : Int32).toInt = 0 by decide) (Eq.refl z_8.toInt) c_9
                refine lv_aload_n hx hb d_Model_reckon_88 rfl (lv_at hl 3 rfl) ?_
                refine lv_aload_n hx hb d_Model_reckon_89 rfl (lv_at hl 3 rfl) ?_
                refine va_get (D := (dC, dI)) (ci := 8) (v := .ref mB) (C := "PermitRulesModel") (T := T_Model) (N := 40) hx hb htb in_Model hown hK hP 5 rfl rfl 26 (by decide) (htb _ mb_679) (fun _ h9 => h9) rfl d_Model_reckon_90 ?_
                refine lv_iload hx hb d_Model_reckon_93 (lv_at hl 0 rfl) ?_
                refine va_lald hx hb hK hP 2 2 rfl rfl (ib_in (Eq.refl z_8.toInt) (by omega) (by omega)) d_Model_reckon_95 ?_
                refine lv_lconst (v := 1) hx hb d_Model_reckon_96 (by decide) ?_
                have hPc := hP.sub (ws' := [(oM, .inr (8, [.int th, .ref mT, .int ml, .int ma, .int mk, .int mp, .long mv, .int mw, .ref mN, .ref mD, .ref mF, .ref mS, .ref mL, .ref mR, .ref mE, .ref mK, .ref mV, .int dr, .int dc, .int ds, .int ru, .int cl, .ref mO, .int os, .int fc, .ref mA, .ref mB, .ref mU, .ref mW, .int xp, .int xy, .long xm, .int aq, .int da, .ref mX, .ref mY, .long lu, .long ld, .long qu, .long qd])), (mU, .inl (cJ, 130, .inr (.inl xu))), (mW, .inl (cJ, 130, .inr (.inl xd)))]) [5, 3, 4] rfl
                have hDc := hD.sub (ws' := [(oM, .inr (8, [.int th, .ref mT, .int ml, .int ma, .int mk, .int mp, .long mv, .int mw, .ref mN, .ref mD, .ref mF, .ref mS, .ref mL, .ref mR, .ref mE, .ref mK, .ref mV, .int dr, .int dc, .int ds, .int ru, .int cl, .ref mO, .int os, .int fc, .ref mA, .ref mB, .ref mU, .ref mW, .int xp, .int xy, .long xm, .int aq, .int da, .ref mX, .ref mY, .long lu, .long ld, .long qu, .long qd])), (mU, .inl (cJ, 130, .inr (.inl xu))), (mW, .inl (cJ, 130, .inr (.inl xd)))]) [5, 3, 4] (by decide) rfl
                have hFc := va_free (wc := [(oM, .inr (8, [.int th, .ref mT, .int ml, .int ma, .int mk, .int mp, .long mv, .int mw, .ref mN, .ref mD, .ref mF, .ref mS, .ref mL, .ref mR, .ref mE, .ref mK, .ref mV, .int dr, .int dc, .int ds, .int ru, .int cl, .ref mO, .int os, .int fc, .ref mA, .ref mB, .ref mU, .ref mW, .int xp, .int xy, .long xm, .int aq, .int da, .ref mX, .ref mY, .long lu, .long ld, .long qu, .long qd])), (mU, .inl (cJ, 130, .inr (.inl xu))), (mW, .inl (cJ, 130, .inr (.inl xd)))]) hD hS hA [5, 3, 4] rfl
                refine va_callv (va_runV (As := [.long (gv z_8.toNatClampNeg), .long 1]) (rest := []) ⟨hx, hb, hml, hown, htb⟩ (c_Model_give l dC dI cB cI cJ oM mT mN mD mF mS mL mR mE mK mV mO mA mB mU mW mX mY _ (gv z_8.toNatClampNeg) 1 th ml ma mk mp mv mw dr dc ds ru cl os fc xp xy xm aq da lu ld qu qd xu xd (by omega) (by have := r5.1; omega) (fun _ => by decide)) ⟨callB_of 2 htb (gb_all mb_885) rfl rfl rfl (htb _ mb_9) (htb _ mb_882) (by decide +kernel) ⟨Nat.le_of_ble_eq_true rfl, Nat.le_of_ble_eq_true rfl⟩, htb _ mb_884, htb _ mp_30⟩ ⟨kb_blind, va_recv hK hPc (ci := 8) (q0 := 0) rfl rfl, kb_at hPc hDc hKx⟩ rfl rfl hl.1 rfl (lv_room (Nat.le_of_ble_eq_true rfl)) d_Model_reckon_97 ⟨Nat.le_of_ble_eq_true rfl, Nat.le_of_ble_eq_true rfl⟩) hS (fun q _ h => hFc q h) hFc (fun z_10 t H1 locs ht hvm hw hB hz1 hk1 hS => ?_)
                have hz_10 := hw
                have hF := hF.trans (lt_e hz_10)
                obtain ⟨hP1, hD1⟩ := hB
                rw [ht] at hP1
                obtain ⟨hP, hD⟩ := va_join (wr := [(mK, .inl (cI, 480, .inl sk)), (mV, .inl (cJ, 480, .inr (.inl sv))), (mB, .inl (cJ, 40, .inr (.inl gv))), (mA, .inl (cJ, 40, .inr (.inl gn)))]) (w1 := [(oM, .inr (8, [.int th, .ref mT, .int ml, .int ma, .int mk, .int mp, .long mv, .int mw, .ref mN, .ref mD, .ref mF, .ref mS, .ref mL, .ref mR, .ref mE, .ref mK, .ref mV, .int dr, .int dc, .int ds, .int ru, .int cl, .ref mO, .int os, .int fc, .ref mA, .ref mB, .ref mU, .ref mW, .int z_10.1, .int z_10.2.1, .long xm, .int aq, .int da, .ref mX, .ref mY, .long lu, .long ld, .long qu, .long qd])), (mU, .inl (cJ, 130, .inr (.inl z_10.2.2.1))), (mW, .inl (cJ, 130, .inr (.inl z_10.2.2.2)))]) hP hD [5, 3, 4] [0, 1, 2, 6] rfl rfl (by decide) (by decide) hk1 hFc hP1 hD1
                generalize H1 = H at hP hS ⊢
                have hP : va_P (dC, dI) vwCl [(mK, .inl (cI, 480, .inl sk)), (mV, .inl (cJ, 480, .inr (.inl sv))), (mB, .inl (cJ, 40, .inr (.inl gv))), (mA, .inl (cJ, 40, .inr (.inl gn))), (oM, .inr (8, [.int th, .ref mT, .int ml, .int ma, .int mk, .int mp, .long mv, .int mw, .ref mN, .ref mD, .ref mF, .ref mS, .ref mL, .ref mR, .ref mE, .ref mK, .ref mV, .int dr, .int dc, .int ds, .int ru, .int cl, .ref mO, .int os, .int fc, .ref mA, .ref mB, .ref mU, .ref mW, .int z_10.1, .int z_10.2.1, .long xm, .int aq, .int da, .ref mX, .ref mY, .long lu, .long ld, .long qu, .long qd])), (mU, .inl (cJ, 130, .inr (.inl z_10.2.2.1))), (mW, .inl (cJ, 130, .inr (.inl z_10.2.2.2)))] H := hP
                have hD : va_D A [(mK, .inl (cI, 480, .inl sk)), (mV, .inl (cJ, 480, .inr (.inl sv))), (mB, .inl (cJ, 40, .inr (.inl gv))), (mA, .inl (cJ, 40, .inr (.inl gn))), (oM, .inr (8, [.int th, .ref mT, .int ml, .int ma, .int mk, .int mp, .long mv, .int mw, .ref mN, .ref mD, .ref mF, .ref mS, .ref mL, .ref mR, .ref mE, .ref mK, .ref mV, .int dr, .int dc, .int ds, .int ru, .int cl, .ref mO, .int os, .int fc, .ref mA, .ref mB, .ref mU, .ref mW, .int z_10.1, .int z_10.2.1, .long xm, .int aq, .int da, .ref mX, .ref mY, .long lu, .long ld, .long qu, .long qd])), (mU, .inl (cJ, 130, .inr (.inl z_10.2.2.1))), (mW, .inl (cJ, 130, .inr (.inl z_10.2.2.2)))] := hD
                refine lv_goto (tgt := 199) hx hb d_Model_reckon_100 (by decide) ?_
                refine lv_iinc (v := i + 1) (lv' := [(3, .int (i + 1)), (5, .int z_8), (4, .int (sk i.toNatClampNeg)), (0, .ref oM), (1, .int fr), (2, .int tq)]) hx hb d_Model_reckon_199 hl (k := 2) rfl (by first | rfl | decide) (by decide) rfl (fun ls hl => ?_)
                refine lv_goto (tgt := 7) hx hb d_Model_reckon_202 (by decide) ?_
                exact ih (i + 1) z_10.1 z_10.2.1 xm z_10.2.2.1 z_10.2.2.2 (rk_give hz_10 c_2 (by decide) r1 (by have := r5.1; omega) r4 r0 (by omega) r5.2).1 (rk_give (sk := sk) (tq := tq) (k := i) hz_10 c_2 (by decide) r1 (by have := r5.1; omega) r4 r0 (by omega) r5.2).2 (by have q0 := (oi_addE (Eq.refl i.toInt) (show (1 : Int32).toInt = 1 by decide) (by omega) (by omega)); omega) hF _ _ _ (hP.sub [4, 0, 1, 3, 2, 5, 6] rfl) (hD.sub [4, 0, 1, 3, 2, 5, 6] (by decide) rfl) hS (lv_sub hl [0, 3, 4, 5] rfl)
              · have hF := hF.trans (if_neg c_9)
                have tc_9 := ti_nle (show (0 : Int32).toInt = 0 by decide) (Eq.refl z_8.toInt) c_9
                refine lv_aload_n hx hb d_Model_reckon_70 rfl (lv_at hl 3 rfl) ?_
                refine lv_iconst (v := 1) hx hb d_Model_reckon_71 (by decide) ?_
                have hPc := hP.sub (ws' := [(oM, .inr (8, [.int th, .ref mT, .int ml, .int ma, .int mk, .int mp, .long mv, .int mw, .ref mN, .ref mD, .ref mF, .ref mS, .ref mL, .ref mR, .ref mE, .ref mK, .ref mV, .int dr, .int dc, .int ds, .int ru, .int cl, .ref mO, .int os, .int fc, .ref mA, .ref mB, .ref mU, .ref mW, .int xp, .int xy, .long xm, .int aq, .int da, .ref mX, .ref mY, .long lu, .long ld, .long qu, .long qd]))]) [5] rfl
                have hDc := hD.sub (ws' := [(oM, .inr (8, [.int th, .ref mT, .int ml, .int ma, .int mk, .int mp, .long mv, .int mw, .ref mN, .ref mD, .ref mF, .ref mS, .ref mL, .ref mR, .ref mE, .ref mK, .ref mV, .int dr, .int dc, .int ds, .int ru, .int cl, .ref mO, .int os, .int fc, .ref mA, .ref mB, .ref mU, .ref mW, .int xp, .int xy, .long xm, .int aq, .int da, .ref mX, .ref mY, .long lu, .long ld, .long qu, .long qd]))]) [5] (by decide) rfl
                have hFc := va_free (wc := [(oM, .inr (8, [.int th, .ref mT, .int ml, .int ma, .int mk, .int mp, .long mv, .int mw, .ref mN, .ref mD, .ref mF, .ref mS, .ref mL, .ref mR, .ref mE, .ref mK, .ref mV, .int dr, .int dc, .int ds, .int ru, .int cl, .ref mO, .int os, .int fc, .ref mA, .ref mB, .ref mU, .ref mW, .int xp, .int xy, .long xm, .int aq, .int da, .ref mX, .ref mY, .long lu, .long ld, .long qu, .long qd]))]) hD hS hA [5] rfl
                refine va_callv (va_runV (As := [.int 1]) (rest := []) ⟨hx, hb, hml, hown, htb⟩ (c_Model_stop l dC dI cB cI cJ oM mT mN mD mF mS mL mR mE mK mV mO mA mB mU mW mX mY _ 1 th ml ma mk mp mv mw dr dc ds ru cl os fc xp xy xm aq da lu ld qu qd ) ⟨callB_of 1 htb (gb_all mb_894) rfl rfl rfl (htb _ mb_9) (htb _ mb_891) (by decide +kernel) ⟨Nat.le_of_ble_eq_true rfl, Nat.le_of_ble_eq_true rfl⟩, htb _ mb_893, htb _ mp_32⟩ ⟨kb_blind, va_recv hK hPc (ci := 8) (q0 := 0) rfl rfl, kb_at hPc hDc hKx⟩ rfl rfl hl.1 rfl (lv_room (Nat.le_of_ble_eq_true rfl)) d_Model_reckon_72 ⟨Nat.le_of_ble_eq_true rfl, Nat.le_of_ble_eq_true rfl⟩) hS (fun q _ h => hFc q h) hFc (fun z_11 t H1 locs ht hvm hw hB hz1 hk1 hS => ?_)
                have hz_11 := hw
                have hF := hF.trans (lt_e hz_11)
                obtain ⟨hP1, hD1⟩ := hB
                rw [ht] at hP1
                obtain ⟨hP, hD⟩ := va_join (wr := [(mK, .inl (cI, 480, .inl sk)), (mV, .inl (cJ, 480, .inr (.inl sv))), (mB, .inl (cJ, 40, .inr (.inl gv))), (mU, .inl (cJ, 130, .inr (.inl xu))), (mW, .inl (cJ, 130, .inr (.inl xd))), (mA, .inl (cJ, 40, .inr (.inl gn)))]) (w1 := [(oM, .inr (8, [.int th, .ref mT, .int ml, .int ma, .int mk, .int mp, .long mv, .int mw, .ref mN, .ref mD, .ref mF, .ref mS, .ref mL, .ref mR, .ref mE, .ref mK, .ref mV, .int dr, .int dc, .int ds, .int ru, .int cl, .ref mO, .int os, .int fc, .ref mA, .ref mB, .ref mU, .ref mW, .int xp, .int z_11, .long xm, .int aq, .int da, .ref mX, .ref mY, .long lu, .long ld, .long qu, .long qd]))]) hP hD [5] [0, 1, 2, 3, 4, 6] rfl rfl (by decide) (by decide) hk1 hFc hP1 hD1
                generalize H1 = H at hP hS ⊢
                have hP : va_P (dC, dI) vwCl [(mK, .inl (cI, 480, .inl sk)), (mV, .inl (cJ, 480, .inr (.inl sv))), (mB, .inl (cJ, 40, .inr (.inl gv))), (mU, .inl (cJ, 130, .inr (.inl xu))), (mW, .inl (cJ, 130, .inr (.inl xd))), (mA, .inl (cJ, 40, .inr (.inl gn))), (oM, .inr (8, [.int th, .ref mT, .int ml, .int ma, .int mk, .int mp, .long mv, .int mw, .ref mN, .ref mD, .ref mF, .ref mS, .ref mL, .ref mR, .ref mE, .ref mK, .ref mV, .int dr, .int dc, .int ds, .int ru, .int cl, .ref mO, .int os, .int fc, .ref mA, .ref mB, .ref mU, .ref mW, .int xp, .int z_11, .long xm, .int aq, .int da, .ref mX, .ref mY, .long lu, .long ld, .long qu, .long qd]))] H := hP
                have hD : va_D A [(mK, .inl (cI, 480, .inl sk)), (mV, .inl (cJ, 480, .inr (.inl sv))), (mB, .inl (cJ, 40, .inr (.inl gv))), (mU, .inl (cJ, 130, .inr (.inl xu))), (mW, .inl (cJ, 130, .inr (.inl xd))), (mA, .inl (cJ, 40, .inr (.inl gn))), (oM, .inr (8, [.int th, .ref mT, .int ml, .int ma, .int mk, .int mp, .long mv, .int mw, .ref mN, .ref mD, .ref mF, .ref mS, .ref mL, .ref mR, .ref mE, .ref mK, .ref mV, .int dr, .int dc, .int ds, .int ru, .int cl, .ref mO, .int os, .int fc, .ref mA, .ref mB, .ref mU, .ref mW, .int xp, .int z_11, .long xm, .int aq, .int da, .ref mX, .ref mY, .long lu, .long ld, .long qu, .long qd]))] := hD
                refine lv_aload_n hx hb d_Model_reckon_75 rfl (lv_at hl 3 rfl) ?_
                refine lv_aload_n hx hb d_Model_reckon_76 rfl (lv_at hl 3 rfl) ?_
                refine va_get (D := (dC, dI)) (ci := 8) (v := .ref mV) (C := "PermitRulesModel") (T := T_Model) (N := 40) hx hb htb in_Model hown hK hP 6 rfl rfl 16 (by decide) (htb _ mb_669) (fun _ h9 => h9) rfl d_Model_reckon_77 ?_
                refine lv_iload_n hx hb d_Model_reckon_80 rfl (lv_at hl 2 rfl) ?_
                refine va_lald hx hb hK hP 1 2 rfl rfl (ib_in (Eq.refl i.toInt) (by omega) (by omega)) d_Model_reckon_81 ?_
                refine va_put (D := (dC, dI)) (ci := 8) (v := .long (sv i.toNatClampNeg)) (ty := .long) (C := "PermitRulesModel") (T := T_Model) (N := 40) hx hb htb in_Model ty_Model to_Model nm_Model hown hK hP hD hS 6 rfl rfl 31 (by decide) (htb _ mb_684) (fun _ h9 => h9) rfl (by decide +kernel) rfl rfl (Nat.le_of_ble_eq_true rfl) d_Model_reckon_82 (fun H locs hP hD hS => ?_)
                have hP : va_P (dC, dI) vwCl [(mK, .inl (cI, 480, .inl sk)), (mV, .inl (cJ, 480, .inr (.inl sv))), (mB, .inl (cJ, 40, .inr (.inl gv))), (mU, .inl (cJ, 130, .inr (.inl xu))), (mW, .inl (cJ, 130, .inr (.inl xd))), (mA, .inl (cJ, 40, .inr (.inl gn))), (oM, .inr (8, [.int th, .ref mT, .int ml, .int ma, .int mk, .int mp, .long mv, .int mw, .ref mN, .ref mD, .ref mF, .ref mS, .ref mL, .ref mR, .ref mE, .ref mK, .ref mV, .int dr, .int dc, .int ds, .int ru, .int cl, .ref mO, .int os, .int fc, .ref mA, .ref mB, .ref mU, .ref mW, .int xp, .int z_11, .long (sv i.toNatClampNeg), .int aq, .int da, .ref mX, .ref mY, .long lu, .long ld, .long qu, .long qd]))] H := hP
                have hD : va_D A [(mK, .inl (cI, 480, .inl sk)), (mV, .inl (cJ, 480, .inr (.inl sv))), (mB, .inl (cJ, 40, .inr (.inl gv))), (mU, .inl (cJ, 130, .inr (.inl xu))), (mW, .inl (cJ, 130, .inr (.inl xd))), (mA, .inl (cJ, 40, .inr (.inl gn))), (oM, .inr (8, [.int th, .ref mT, .int ml, .int ma, .int mk, .int mp, .long mv, .int mw, .ref mN, .ref mD, .ref mF, .ref mS, .ref mL, .ref mR, .ref mE, .ref mK, .ref mV, .int dr, .int dc, .int ds, .int ru, .int cl, .ref mO, .int os, .int fc, .ref mA, .ref mB, .ref mU, .ref mW, .int xp, .int z_11, .long (sv i.toNatClampNeg), .int aq, .int da, .ref mX, .ref mY, .long lu, .long ld, .long qu, .long qd]))] := hD
                refine lv_goto (tgt := 100) hx hb d_Model_reckon_85 (by decide) ?_
                refine lv_goto (tgt := 199) hx hb d_Model_reckon_100 (by decide) ?_
                refine lv_iinc (v := i + 1) (lv' := [(3, .int (i + 1)), (5, .int z_8), (4, .int (sk i.toNatClampNeg)), (0, .ref oM), (1, .int fr), (2, .int tq)]) hx hb d_Model_reckon_199 hl (k := 2) rfl (by first | rfl | decide) (by decide) rfl (fun ls hl => ?_)
                refine lv_goto (tgt := 7) hx hb d_Model_reckon_202 (by decide) ?_
                exact ih (i + 1) xp z_11 (sv i.toNatClampNeg) xu xd (rk_stop hz_11 c_2).1 (rk_stop (P := True) hz_11 c_2).2 (by have q0 := (oi_addE (Eq.refl i.toInt) (show (1 : Int32).toInt = 1 by decide) (by omega) (by omega)); omega) hF _ _ _ (hP.sub [6, 0, 1, 5, 2, 3, 4] rfl) (hD.sub [6, 0, 1, 5, 2, 3, 4] (by decide) rfl) hS (lv_sub hl [0, 3, 4, 5] rfl)
          · have hF := hF.trans (if_pos c_3)
            have tc_3 := ti_eq (Eq.refl (sk i.toNatClampNeg).toInt) (show (1 : Int32).toInt = 1 by decide) c_3
            have r5 := pf_1 r3 (by omega) r0 c_3
            refine lv_aload_n hx hb d_Model_reckon_33 rfl (lv_at hl 2 rfl) ?_
            refine lv_aload_n hx hb d_Model_reckon_34 rfl (lv_at hl 2 rfl) ?_
            refine va_get (D := (dC, dI)) (ci := 8) (v := .ref mV) (C := "PermitRulesModel") (T := T_Model) (N := 40) hx hb htb in_Model hown hK hP 0 rfl rfl 16 (by decide) (htb _ mb_669) (fun _ h9 => h9) rfl d_Model_reckon_35 ?_
            refine lv_iload_n hx hb d_Model_reckon_38 rfl (lv_at hl 1 rfl) ?_
            refine va_lald hx hb hK hP 2 2 rfl rfl (ib_in (Eq.refl i.toInt) (by omega) (by omega)) d_Model_reckon_39 ?_
            refine lv_lconst (v := 1) hx hb d_Model_reckon_40 (by decide) ?_
            have hPc := hP.sub (ws' := [(oM, .inr (8, [.int th, .ref mT, .int ml, .int ma, .int mk, .int mp, .long mv, .int mw, .ref mN, .ref mD, .ref mF, .ref mS, .ref mL, .ref mR, .ref mE, .ref mK, .ref mV, .int dr, .int dc, .int ds, .int ru, .int cl, .ref mO, .int os, .int fc, .ref mA, .ref mB, .ref mU, .ref mW, .int xp, .int xy, .long xm, .int aq, .int da, .ref mX, .ref mY, .long lu, .long ld, .long qu, .long qd])), (mU, .inl (cJ, 130, .inr (.inl xu))), (mW, .inl (cJ, 130, .inr (.inl xd)))]) [0, 5, 6] rfl
            have hDc := hD.sub (ws' := [(oM, .inr (8, [.int th, .ref mT, .int ml, .int ma, .int mk, .int mp, .long mv, .int mw, .ref mN, .ref mD, .ref mF, .ref mS, .ref mL, .ref mR, .ref mE, .ref mK, .ref mV, .int dr, .int dc, .int ds, .int ru, .int cl, .ref mO, .int os, .int fc, .ref mA, .ref mB, .ref mU, .ref mW, .int xp, .int xy, .long xm, .int aq, .int da, .ref mX, .ref mY, .long lu, .long ld, .long qu, .long qd])), (mU, .inl (cJ, 130, .inr (.inl xu))), (mW, .inl (cJ, 130, .inr (.inl xd)))]) [0, 5, 6] (by decide) rfl
            have hFc := va_free (wc := [(oM, .inr (8, [.int th, .ref mT, .int ml, .int ma, .int mk, .int mp, .long mv, .int mw, .ref mN, .ref mD, .ref mF, .ref mS, .ref mL, .ref mR, .ref mE, .ref mK, .ref mV, .int dr, .int dc, .int ds, .int ru, .int cl, .ref mO, .int os, .int fc, .ref mA, .ref mB, .ref mU, .ref mW, .int xp, .int xy, .long xm, .int aq, .int da, .ref mX, .ref mY, .long lu, .long ld, .long qu, .long qd])), (mU, .inl (cJ, 130, .inr (.inl xu))), (mW, .inl (cJ, 130, .inr (.inl xd)))]) hD hS hA [0, 5, 6] rfl
            refine va_callv (va_runV (As := [.long (sv i.toNatClampNeg), .long 1]) (rest := []) ⟨hx, hb, hml, hown, htb⟩ (c_Model_give l dC dI cB cI cJ oM mT mN mD mF mS mL mR mE mK mV mO mA mB mU mW mX mY _ (sv i.toNatClampNeg) 1 th ml ma mk mp mv mw dr dc ds ru cl os fc xp xy xm aq da lu ld qu qd xu xd (by omega) (by have := r5.1; omega) (fun _ => by decide)) ⟨callB_of 2 htb (gb_all mb_885) rfl rfl rfl (htb _ mb_9) (htb _ mb_882) (by decide +kernel) ⟨Nat.le_of_ble_eq_true rfl, Nat.le_of_ble_eq_true rfl⟩, htb _ mb_884, htb _ mp_30⟩ ⟨kb_blind, va_recv hK hPc (ci := 8) (q0 := 0) rfl rfl, kb_at hPc hDc hKx⟩ rfl rfl hl.1 rfl (lv_room (Nat.le_of_ble_eq_true rfl)) d_Model_reckon_41 ⟨Nat.le_of_ble_eq_true rfl, Nat.le_of_ble_eq_true rfl⟩) hS (fun q _ h => hFc q h) hFc (fun z_12 t H1 locs ht hvm hw hB hz1 hk1 hS => ?_)
            have hz_12 := hw
            have hF := hF.trans (lt_e hz_12)
            obtain ⟨hP1, hD1⟩ := hB
            rw [ht] at hP1
            obtain ⟨hP, hD⟩ := va_join (wr := [(mK, .inl (cI, 480, .inl sk)), (mV, .inl (cJ, 480, .inr (.inl sv))), (mA, .inl (cJ, 40, .inr (.inl gn))), (mB, .inl (cJ, 40, .inr (.inl gv)))]) (w1 := [(oM, .inr (8, [.int th, .ref mT, .int ml, .int ma, .int mk, .int mp, .long mv, .int mw, .ref mN, .ref mD, .ref mF, .ref mS, .ref mL, .ref mR, .ref mE, .ref mK, .ref mV, .int dr, .int dc, .int ds, .int ru, .int cl, .ref mO, .int os, .int fc, .ref mA, .ref mB, .ref mU, .ref mW, .int z_12.1, .int z_12.2.1, .long xm, .int aq, .int da, .ref mX, .ref mY, .long lu, .long ld, .long qu, .long qd])), (mU, .inl (cJ, 130, .inr (.inl z_12.2.2.1))), (mW, .inl (cJ, 130, .inr (.inl z_12.2.2.2)))]) hP hD [0, 5, 6] [1, 2, 3, 4] rfl rfl (by decide) (by decide) hk1 hFc hP1 hD1
            generalize H1 = H at hP hS ⊢
            have hP : va_P (dC, dI) vwCl [(mK, .inl (cI, 480, .inl sk)), (mV, .inl (cJ, 480, .inr (.inl sv))), (mA, .inl (cJ, 40, .inr (.inl gn))), (mB, .inl (cJ, 40, .inr (.inl gv))), (oM, .inr (8, [.int th, .ref mT, .int ml, .int ma, .int mk, .int mp, .long mv, .int mw, .ref mN, .ref mD, .ref mF, .ref mS, .ref mL, .ref mR, .ref mE, .ref mK, .ref mV, .int dr, .int dc, .int ds, .int ru, .int cl, .ref mO, .int os, .int fc, .ref mA, .ref mB, .ref mU, .ref mW, .int z_12.1, .int z_12.2.1, .long xm, .int aq, .int da, .ref mX, .ref mY, .long lu, .long ld, .long qu, .long qd])), (mU, .inl (cJ, 130, .inr (.inl z_12.2.2.1))), (mW, .inl (cJ, 130, .inr (.inl z_12.2.2.2)))] H := hP
            have hD : va_D A [(mK, .inl (cI, 480, .inl sk)), (mV, .inl (cJ, 480, .inr (.inl sv))), (mA, .inl (cJ, 40, .inr (.inl gn))), (mB, .inl (cJ, 40, .inr (.inl gv))), (oM, .inr (8, [.int th, .ref mT, .int ml, .int ma, .int mk, .int mp, .long mv, .int mw, .ref mN, .ref mD, .ref mF, .ref mS, .ref mL, .ref mR, .ref mE, .ref mK, .ref mV, .int dr, .int dc, .int ds, .int ru, .int cl, .ref mO, .int os, .int fc, .ref mA, .ref mB, .ref mU, .ref mW, .int z_12.1, .int z_12.2.1, .long xm, .int aq, .int da, .ref mX, .ref mY, .long lu, .long ld, .long qu, .long qd])), (mU, .inl (cJ, 130, .inr (.inl z_12.2.2.1))), (mW, .inl (cJ, 130, .inr (.inl z_12.2.2.2)))] := hD
            refine lv_goto (tgt := 199) hx hb d_Model_reckon_44 (by decide) ?_
            refine lv_iinc (v := i + 1) (lv' := [(3, .int (i + 1)), (4, .int (sk i.toNatClampNeg)), (0, .ref oM), (1, .int fr), (2, .int tq)]) hx hb d_Model_reckon_199 hl (k := 1) rfl (by first | rfl | decide) (by decide) rfl (fun ls hl => ?_)
            refine lv_goto (tgt := 7) hx hb d_Model_reckon_202 (by decide) ?_
            exact ih (i + 1) z_12.1 z_12.2.1 xm z_12.2.2.1 z_12.2.2.2 (rk_give hz_12 c_2 (by decide) r1 (by have := r5.1; omega) r4 r0 (by omega) r5.2).1 (rk_give (sk := sk) (tq := tq) (k := i) hz_12 c_2 (by decide) r1 (by have := r5.1; omega) r4 r0 (by omega) r5.2).2 (by have q0 := (oi_addE (Eq.refl i.toInt) (show (1 : Int32).toInt = 1 by decide) (by omega) (by omega)); omega) hF _ _ _ (hP.sub [4, 0, 1, 2, 3, 5, 6] rfl) (hD.sub [4, 0, 1, 2, 3, 5, 6] (by decide) rfl) hS (lv_sub hl [0, 2, 3, 4] rfl)
  refine lv_aload_n hx hb d_Model_reckon_0 rfl (lv_at hl 0 rfl) ?_
  refine lv_iconst (v := 0) hx hb d_Model_reckon_1 (by decide) ?_
  refine va_put (D := (dC, dI)) (ci := 8) (v := .int 0) (ty := .int) (C := "PermitRulesModel") (T := T_Model) (N := 40) hx hb htb in_Model ty_Model to_Model nm_Model hown hK hP hD hS 0 rfl rfl 29 (by decide) (htb _ mb_682) (fun _ h9 => h9) rfl (by decide +kernel) rfl rfl (Nat.le_of_ble_eq_true rfl) d_Model_reckon_2 (fun H locs hP hD hS => ?_)
  have hP : va_P (dC, dI) vwCl [(oM, .inr (8, [.int th, .ref mT, .int ml, .int ma, .int mk, .int mp, .long mv, .int mw, .ref mN, .ref mD, .ref mF, .ref mS, .ref mL, .ref mR, .ref mE, .ref mK, .ref mV, .int dr, .int dc, .int ds, .int ru, .int cl, .ref mO, .int os, .int fc, .ref mA, .ref mB, .ref mU, .ref mW, .int 0, .int wh, .long ms, .int aq, .int da, .ref mX, .ref mY, .long lu, .long ld, .long qu, .long qd])), (mK, .inl (cI, 480, .inl sk)), (mV, .inl (cJ, 480, .inr (.inl sv))), (mA, .inl (cJ, 40, .inr (.inl gn))), (mB, .inl (cJ, 40, .inr (.inl gv))), (mU, .inl (cJ, 130, .inr (.inl up))), (mW, .inl (cJ, 130, .inr (.inl dn)))] H := hP
  have hD : va_D A [(oM, .inr (8, [.int th, .ref mT, .int ml, .int ma, .int mk, .int mp, .long mv, .int mw, .ref mN, .ref mD, .ref mF, .ref mS, .ref mL, .ref mR, .ref mE, .ref mK, .ref mV, .int dr, .int dc, .int ds, .int ru, .int cl, .ref mO, .int os, .int fc, .ref mA, .ref mB, .ref mU, .ref mW, .int 0, .int wh, .long ms, .int aq, .int da, .ref mX, .ref mY, .long lu, .long ld, .long qu, .long qd])), (mK, .inl (cI, 480, .inl sk)), (mV, .inl (cJ, 480, .inr (.inl sv))), (mA, .inl (cJ, 40, .inr (.inl gn))), (mB, .inl (cJ, 40, .inr (.inl gv))), (mU, .inl (cJ, 130, .inr (.inl up))), (mW, .inl (cJ, 130, .inr (.inl dn)))] := hD
  refine lv_iload_n hx hb d_Model_reckon_5 rfl (lv_at hl 1 rfl) ?_
  refine lv_istore_n (lv' := [(3, .int fr), (0, .ref oM), (1, .int fr), (2, .int tq)]) hx hb d_Model_reckon_6 rfl hl (by decide) rfl (fun ls hl => ?_)
  exact lp7 ((tq.toInt - fr.toInt).toNat + 1) fr 0 wh ms up dn (fun _ => rk_0 hPF) (by omega) (Nat.lt_succ_self _) hF _ _ _ (hP.sub [0, 1, 2, 3, 4, 5, 6] rfl) (hD.sub [0, 1, 2, 3, 4, 5, 6] (by decide) rfl) hS (lv_sub hl [0, 1, 2, 3] rfl)
