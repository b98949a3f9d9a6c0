def gtail (va vb : Int64) (pi wh : Int32) (up dn : Nat → Int64) (gx : Int64) : Int32 × Int32 × (Nat → Int64) × (Nat → Int64) := (if 0 ≤ (lg_cmp gx 0) then (if 0 ≤ (lg_cmp (vb / gx) 0) then (pi + 1, wh, vp_updL up pi.toNatClampNeg (va / gx), vp_updL dn pi.toNatClampNeg (vb / gx)) else (lt_ (f_Model_less 0 (va / gx) wh) fun z_5 => (lt_ (f_Model_less 0 (vb / gx) z_5.2) fun z_6 => (pi + 1, z_6.2, vp_updL up pi.toNatClampNeg z_5.1, vp_updL dn pi.toNatClampNeg z_6.1)))) else (if (lg_cmp gx (-9223372036854775808)) = 0 then (if 0 ≤ (lg_cmp (vb / gx) 0) then (pi + 1, wh, vp_updL up pi.toNatClampNeg (va / gx), vp_updL dn pi.toNatClampNeg (vb / gx)) else (lt_ (f_Model_less 0 (va / gx) wh) fun z_9 => (lt_ (f_Model_less 0 (vb / gx) z_9.2) fun z_10 => (pi + 1, z_10.2, vp_updL up pi.toNatClampNeg z_9.1, vp_updL dn pi.toNatClampNeg z_10.1)))) else (if 0 ≤ (lg_cmp (vb / (-gx)) 0) then (pi + 1, wh, vp_updL up pi.toNatClampNeg (va / (-gx)), vp_updL dn pi.toNatClampNeg (vb / (-gx))) else (lt_ (f_Model_less 0 (va / (-gx)) wh) fun z_12 => (lt_ (f_Model_less 0 (vb / (-gx)) z_12.2) fun z_13 => (pi + 1, z_13.2, vp_updL up pi.toNatClampNeg z_12.1, vp_updL dn pi.toNatClampNeg z_13.1))))))
theorem gv_loop (va vb : Int64) (pi wh : Int32) (up dn : Nat → Int64) : ∀ (n : Nat) (gx gy : Int64), gy.toInt.natAbs < n → ∃ g : Int64, g.toInt.natAbs = Nat.gcd gx.toInt.natAbs gy.toInt.natAbs ∧ f_Model_give_L14 va vb pi wh up dn n gx gy = gtail va vb pi wh up dn g := by
  intro n
  induction n with
  | zero => intro gx gy h; exact absurd h (Nat.not_lt_zero _)
  | succ n ih =>
    intro gx gy hn
    rw [f_Model_give_L14_s]
    by_cases h : lg_cmp gy 0 = 0
    · rw [if_pos h]
      refine ⟨gx, ?_, rfl⟩
      rw [lc_z.mp h, show (0 : Int64).toInt.natAbs = 0 by decide, Nat.gcd_zero_right]
    · rw [if_neg h]
      obtain ⟨g, h1, h2⟩ := ih gy (gx - gx / gy * gy) (gv_s h hn)
      refine ⟨g, ?_, h2⟩
      have h3 := Nat.gcd_rec gy.toInt.natAbs gx.toInt.natAbs
      rw [h1, Jvm.Kit.i64_rem, Int.natAbs_tmod, Nat.gcd_comm gx.toInt.natAbs gy.toInt.natAbs, h3, Nat.gcd_comm]
/-- in lowest terms, the lower number above 0 -/
def rG (va vb : Int64) : Nat := Nat.gcd va.toInt.natAbs vb.toInt.natAbs
def rU (va vb : Int64) : Int := if vb.toInt < 0 then -(va.toInt / (rG va vb : Int)) else va.toInt / (rG va vb : Int)
def rD (va vb : Int64) : Int := if vb.toInt < 0 then -(vb.toInt / (rG va vb : Int)) else vb.toInt / (rG va vb : Int)
def rOK (va vb : Int64) : Prop := rU va vb < 9223372036854775808 ∧ rD va vb < 9223372036854775808
theorem i64_hi (x : Int64) : x.toInt < 9223372036854775808 := by have := x.toInt_lt; omega
theorem i64_lo (x : Int64) : -9223372036854775808 ≤ x.toInt := by have := x.le_toInt; omega
theorem i64_MIN : (-9223372036854775808 : Int64).toInt = -9223372036854775808 := by decide
theorem i64_0 : (0 : Int64).toInt = 0 := by decide
theorem i64_ext {x y : Int64} (h : x.toInt = y.toInt) : x = y := Int64.toInt_inj.mp h
theorem rG_pos {va vb : Int64} (h : ¬ vb = 0) : 0 < rG va vb := Nat.gcd_pos_of_pos_right _ (by
  have : vb.toInt ≠ 0 := fun e => h (i64_ext (by rw [e, i64_0]))
  omega)
theorem rG_l (va vb : Int64) : (rG va vb : Int) ∣ va.toInt := Int.ofNat_dvd_left.mpr (Nat.gcd_dvd_left _ _)
theorem rG_r (va vb : Int64) : (rG va vb : Int) ∣ vb.toInt := Int.ofNat_dvd_left.mpr (Nat.gcd_dvd_right _ _)
/-- an exact quotient by what is above 0 -/
theorem dv_ex {a x : Int64} {g : Nat} (hg : 0 < g) (hx : x.toInt = (g : Int)) (hd : (g : Int) ∣ a.toInt) : (a / x).toInt = a.toInt / (g : Int) := by
  rw [Int64.toInt_div, hx, Int.tdiv_eq_ediv_of_dvd hd]
  have h1 := i64_hi a
  have h2 := i64_lo a
  obtain ⟨k, hk⟩ := hd
  have e : a.toInt / (g : Int) = k := by rw [hk]; exact Int.mul_ediv_cancel_left k (by omega)
  rw [e]
  have hg1 : (1 : Int) ≤ g := by omega
  have b1 : k < 9223372036854775808 := by
    rcases Int.lt_or_le k 9223372036854775808 with h | h
    · exact h
    · have : (9223372036854775808 : Int) ≤ g * k := Int.le_trans h (by
        have := Int.mul_le_mul_of_nonneg_right hg1 (show (0 : Int) ≤ k by omega)
        omega)
      omega
  have b2 : -9223372036854775808 ≤ k := by
    rcases Int.lt_or_le k (-9223372036854775808) with h | h
    · have : (g : Int) * k ≤ 1 * k := Int.mul_le_mul_of_nonpos_right hg1 (by omega)
      omega
    · exact h
  exact Jvm.Kit.bmod64 (by omega) (by omega)
theorem sg_and (x y : Int64) : (x &&& y).toInt < 0 ↔ x.toInt < 0 ∧ y.toInt < 0 := by
  have h : ∀ z : Int64, z.toBitVec.msb = decide (z.toInt < 0) := fun z => BitVec.msb_eq_toInt
  have e : (x &&& y).toBitVec.msb = (x.toBitVec.msb && y.toBitVec.msb) := by rw [Int64.toBitVec_and, BitVec.msb_and]
  rw [h, h, h] at e
  by_cases h1 : x.toInt < 0 <;> by_cases h2 : y.toInt < 0 <;> simp [h1, h2] at e ⊢ <;> omega
theorem ls_0 (u : Int64) : f_Model_less 0 u 0 = if u = -9223372036854775808 then (-9223372036854775808, 2) else (-u, 0) := by
  unfold f_Model_less
  rw [show (0 : Int64) ^^^ u = u from Int64.zero_xor, show (0 : Int64) - u = -u from Int64.zero_sub u, show (0 : Int64) ^^^ -u = -u from Int64.zero_xor]
  by_cases h : u = -9223372036854775808
  · rw [if_pos h, h]
    decide
  · rw [if_neg h, if_pos]
    rw [lg_cmp_ge, Int64.le_iff_toInt_le, i64_0]
    have h1 : u.toInt ≠ -2 ^ 63 := fun e => h (i64_ext (by rw [e, i64_MIN]; decide))
    have h2 := Jvm.Kit.i64_neg h1
    have h3 := sg_and u (-u)
    rw [h2] at h3
    omega
theorem ls_2 (u : Int64) : (f_Model_less 0 u 2).2 = 2 := by
  unfold f_Model_less f_Model_stop
  simp only [lt_]
  split <;> rfl
def gsub (va vb : Int64) (pi : Int32) (up dn : Nat → Int64) (x : Int64) : Int32 × Int32 × (Nat → Int64) × (Nat → Int64) := if 0 ≤ lg_cmp (vb / x) 0 then (pi + 1, 0, vp_updL up pi.toNatClampNeg (va / x), vp_updL dn pi.toNatClampNeg (vb / x)) else lt_ (f_Model_less 0 (va / x) 0) fun z => lt_ (f_Model_less 0 (vb / x) z.2) fun y => (pi + 1, y.2, vp_updL up pi.toNatClampNeg z.1, vp_updL dn pi.toNatClampNeg y.1)
def gOut (va vb : Int64) (pi : Int32) (up dn : Nat → Int64) (o : Int32 × Int32 × (Nat → Int64) × (Nat → Int64)) : Prop :=
  (rOK va vb → ∃ u d : Int64, u.toInt = rU va vb ∧ d.toInt = rD va vb ∧ o = (pi + 1, 0, vp_updL up pi.toNatClampNeg u, vp_updL dn pi.toNatClampNeg d)) ∧ (¬ rOK va vb → o.2.1 = 2)
theorem dv_sg {v : Int} {g : Nat} (hg : 0 < g) (hd : (g : Int) ∣ v) : (v < 0 → v / (g : Int) < 0) ∧ (0 < v → 0 < v / (g : Int)) := by
  obtain ⟨k, hk⟩ := hd
  have e : v / (g : Int) = k := by rw [hk]; exact Int.mul_ediv_cancel_left k (by omega)
  rw [e]
  have hg1 : (0 : Int) < g := by omega
  refine ⟨fun h => ?_, fun h => ?_⟩
  · rcases Int.lt_or_le k 0 with q | q
    · exact q
    · have := Int.mul_nonneg (Int.le_of_lt hg1) q
      omega
  · rcases Int.lt_or_le 0 k with q | q
    · exact q
    · have := Int.mul_nonpos_of_nonneg_of_nonpos (Int.le_of_lt hg1) q
      omega
theorem gs_ok {va vb : Int64} {pi : Int32} {up dn : Nat → Int64} {x : Int64} (hb : ¬ vb = 0) (hx : x.toInt = (rG va vb : Int)) : gOut va vb pi up dn (gsub va vb pi up dn x) := by
  have hg := rG_pos (va := va) hb
  have du := dv_ex hg hx (rG_l va vb)
  have dd := dv_ex hg hx (rG_r va vb)
  have sg := dv_sg hg (rG_r va vb)
  have hb' : vb.toInt ≠ 0 := fun e => hb (i64_ext (by rw [e, i64_0]))
  have u1 := i64_hi (va / x)
  have u2 := i64_lo (va / x)
  have d1 := i64_hi (vb / x)
  have d2 := i64_lo (vb / x)
  unfold gsub gOut
  by_cases hs : vb.toInt < 0
  · have c : ¬ 0 ≤ lg_cmp (vb / x) 0 := by
      rw [lg_cmp_ge, Int64.le_iff_toInt_le, i64_0, dd]
      have := sg.1 hs
      omega
    rw [if_neg c]
    simp only [lt_]
    have eU : rU va vb = -(va / x).toInt := by unfold rU; rw [if_pos hs, du]
    have eD : rD va vb = -(vb / x).toInt := by unfold rD; rw [if_pos hs, dd]
    rw [ls_0]
    by_cases h1 : va / x = -9223372036854775808
    · rw [if_pos h1]
      have e1 : (va / x).toInt = -9223372036854775808 := by rw [h1, i64_MIN]
      refine ⟨fun h => ?_, fun _ => ls_2 _⟩
      have := h.1
      omega
    · rw [if_neg h1]
      have n1 : (va / x).toInt ≠ -2 ^ 63 := fun e => h1 (i64_ext (by rw [e, i64_MIN]; decide))
      have m1 := Jvm.Kit.i64_neg n1
      rw [ls_0]
      by_cases h2 : vb / x = -9223372036854775808
      · rw [if_pos h2]
        have e2 : (vb / x).toInt = -9223372036854775808 := by rw [h2, i64_MIN]
        refine ⟨fun h => ?_, fun _ => rfl⟩
        have := h.2
        omega
      · rw [if_neg h2]
        have n2 : (vb / x).toInt ≠ -2 ^ 63 := fun e => h2 (i64_ext (by rw [e, i64_MIN]; decide))
        have m2 := Jvm.Kit.i64_neg n2
        refine ⟨fun _ => ⟨-(va / x), -(vb / x), by rw [m1, eU], by rw [m2, eD], rfl⟩, fun h => absurd ⟨by omega, by omega⟩ h⟩
  · have c : 0 ≤ lg_cmp (vb / x) 0 := by
      rw [lg_cmp_ge, Int64.le_iff_toInt_le, i64_0, dd]
      have := sg.2 (by omega)
      omega
    rw [if_pos c]
    have eU : rU va vb = (va / x).toInt := by unfold rU; rw [if_neg hs, du]
    have eD : rD va vb = (vb / x).toInt := by unfold rD; rw [if_neg hs, dd]
    exact ⟨fun _ => ⟨va / x, vb / x, by rw [eU], by rw [eD], rfl⟩, fun h => absurd ⟨by omega, by omega⟩ h⟩
theorem gm_ok {va vb : Int64} {pi : Int32} {up dn : Nat → Int64} (hb : ¬ vb = 0) (hG : rG va vb = 9223372036854775808) : gOut va vb pi up dn (gsub va vb pi up dn (-9223372036854775808)) := by
  have hb' : vb.toInt ≠ 0 := fun e => hb (i64_ext (by rw [e, i64_0]))
  have kx : ∀ z : Int64, ((9223372036854775808 : Nat) : Int) ∣ z.toInt → z = 0 ∨ z = -9223372036854775808 := by
    intro z hz
    obtain ⟨k, hk⟩ := hz
    have h1 := i64_hi z
    have h2 := i64_lo z
    have h3 : k = 0 ∨ k = -1 := by omega
    rcases h3 with h3 | h3
    · exact Or.inl (i64_ext (by rw [hk, h3, i64_0]; omega))
    · exact Or.inr (i64_ext (by rw [hk, h3, i64_MIN]; omega))
  have hl := rG_l va vb
  have hr := rG_r va vb
  rw [hG] at hl hr
  have e2 : vb = -9223372036854775808 := (kx vb hr).resolve_left hb
  have c : 0 ≤ lg_cmp (vb / -9223372036854775808) 0 := by rw [e2]; decide
  unfold gsub gOut
  rw [if_pos c]
  have hs : vb.toInt < 0 := by rw [e2, i64_MIN]; omega
  have eU : rU va vb = -(va.toInt / 9223372036854775808) := by unfold rU; rw [if_pos hs, hG]; rfl
  have eD : rD va vb = 1 := by unfold rD; rw [if_pos hs, hG, e2, i64_MIN]; decide
  rcases kx va hl with e1 | e1
  · have eU' : rU va vb = 0 := by rw [eU, e1, i64_0]; decide
    exact ⟨fun _ => ⟨_, _, by rw [eU', e1]; decide, by rw [eD, e2]; decide, rfl⟩, fun h => absurd ⟨by omega, by omega⟩ h⟩
  · have eU' : rU va vb = 1 := by rw [eU, e1, i64_MIN]; decide
    exact ⟨fun _ => ⟨_, _, by rw [eU', e1]; decide, by rw [eD, e2]; decide, rfl⟩, fun h => absurd ⟨by omega, by omega⟩ h⟩
theorem gv_ok {va vb : Int64} {pi : Int32} {up dn : Nat → Int64} (hb : ¬ vb = 0) : gOut va vb pi up dn (f_Model_give va vb pi 0 up dn) := by
  unfold f_Model_give
  rw [if_pos (by decide)]
  obtain ⟨g, h1, h2⟩ := gv_loop va vb pi 0 up dn (vb.toInt.natAbs + 1) va vb (Nat.lt_succ_self _)
  rw [h2]
  have hG : g.toInt.natAbs = rG va vb := h1
  have hg := rG_pos (va := va) hb
  unfold gtail
  by_cases c1 : 0 ≤ lg_cmp g 0
  · rw [if_pos c1]
    rw [lg_cmp_ge, Int64.le_iff_toInt_le, i64_0] at c1
    exact gs_ok hb (by omega)
  · rw [if_neg c1]
    rw [lg_cmp_ge, Int64.le_iff_toInt_le, i64_0] at c1
    by_cases c2 : lg_cmp g (-9223372036854775808) = 0
    · rw [if_pos c2]
      have e := lc_z.mp c2
      rw [e] at hG ⊢
      exact gm_ok hb (by rw [← hG, i64_MIN]; decide)
    · rw [if_neg c2]
      have n1 : g.toInt ≠ -2 ^ 63 := fun e => c2 (lc_z.mpr (i64_ext (by rw [e, i64_MIN]; decide)))
      exact gs_ok hb (by rw [Jvm.Kit.i64_neg n1]; omega)
theorem rD_pos {va vb : Int64} (hb : ¬ vb = 0) : 0 < rD va vb := by
  have hb' : vb.toInt ≠ 0 := fun e => hb (i64_ext (by rw [e, i64_0]))
  have sg := dv_sg (rG_pos (va := va) hb) (rG_r va vb)
  unfold rD
  split
  · have := sg.1 (by assumption)
    omega
  · exact sg.2 (by omega)
