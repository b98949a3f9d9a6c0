/-! both reckoners do the same: products, sums, lowest terms -/
def FT (x y : Int64) : Prop := -9223372036854775808 ≤ x.toInt * y.toInt ∧ x.toInt * y.toInt < 9223372036854775808
theorem mul_ft {x y : Int64} (h : FT x y) : (x * y).toInt = x.toInt * y.toInt := by
  rw [Int64.toInt_mul]
  exact Jvm.Kit.bmod64 (by have := h.1; omega) (by have := h.2; omega)
theorem mul_k (x y : Int64) : ∃ k : Int, (x * y).toInt = x.toInt * y.toInt + k * 18446744073709551616 := by
  rw [Int64.toInt_mul]
  have h : ((x.toInt * y.toInt).bmod (2 ^ 64)) % 18446744073709551616 = (x.toInt * y.toInt) % 18446744073709551616 := Int.bmod_emod
  refine ⟨((x.toInt * y.toInt).bmod (2 ^ 64) - x.toInt * y.toInt) / 18446744073709551616, ?_⟩
  omega
theorem div_rg {p x : Int64} (h0 : ¬ x = 0) (h1 : ¬ x = -1) : (p / x).toInt = p.toInt.tdiv x.toInt := by
  rw [Int64.toInt_div]
  have a1 := i64_hi p
  have a2 := i64_lo p
  have e : (p.toInt.tdiv x.toInt).natAbs = p.toInt.natAbs / x.toInt.natAbs := Int.natAbs_tdiv _ _
  have hx0 : x.toInt ≠ 0 := fun e => h0 (i64_ext (by rw [e, i64_0]))
  have hx1 : x.toInt ≠ -1 := fun e => h1 (i64_ext (by rw [e]; decide))
  by_cases hx : x.toInt = 1
  · rw [hx, Int.tdiv_one]
    exact Jvm.Kit.bmod64 (by omega) (by omega)
  · have h2 : 2 ≤ x.toInt.natAbs := by omega
    have h3 : p.toInt.natAbs / x.toInt.natAbs ≤ p.toInt.natAbs / 2 := Nat.div_le_div_left h2 (by decide)
    exact Jvm.Kit.bmod64 (by omega) (by omega)
theorem ft_div {x y : Int64} (h0 : ¬ x = 0) (hm : ¬ (x = -1 ∧ y = -9223372036854775808)) : x * y / x = y ↔ FT x y := by
  have hx0 : x.toInt ≠ 0 := fun e => h0 (i64_ext (by rw [e, i64_0]))
  have b1 := i64_hi y
  have b2 := i64_lo y
  by_cases h1 : x = -1
  · have hy : y.toInt ≠ -9223372036854775808 := fun e => hm ⟨h1, i64_ext (by rw [e]; decide)⟩
    have ft : FT x y := by
      have e : x.toInt = -1 := by rw [h1]; decide
      unfold FT
      rw [e]
      omega
    refine ⟨fun _ => ft, fun _ => i64_ext ?_⟩
    have e1 : (x * y).toInt = -y.toInt := by
      rw [mul_ft ft, h1, show (-1 : Int64).toInt = -1 by decide]
      omega
    rw [Int64.toInt_div, e1, h1, show (-1 : Int64).toInt = -1 by decide, Int.tdiv_neg, Int.tdiv_one, Int.neg_neg]
    exact Jvm.Kit.bmod64 (by omega) (by omega)
  · constructor
    · intro h
      have e : (x * y / x).toInt = y.toInt := by rw [h]
      rw [div_rg h0 h1] at e
      obtain ⟨k, hk⟩ := mul_k x y
      have d := Int.mul_tdiv_add_tmod (x * y).toInt x.toInt
      rw [e] at d
      have r : ((x * y).toInt.tmod x.toInt).natAbs < x.toInt.natAbs := by
        rw [Int.natAbs_tmod]
        exact Nat.mod_lt _ (by omega)
      have c1 := i64_hi x
      have c2 := i64_lo x
      have hk0 : k = 0 := by omega
      rw [hk0] at hk
      have p1 := i64_hi (x * y)
      have p2 := i64_lo (x * y)
      unfold FT
      omega
    · intro h
      apply i64_ext
      rw [div_rg h0 h1, mul_ft h]
      exact Int.mul_tdiv_cancel_left _ hx0
theorem st_2 {w : Int32} (hw : w = 0 ∨ w = 2) : f_Model_stop 2 w = 2 := by
  rcases hw with h | h <;> rw [h] <;> decide
theorem ft_c {x y : Int64} (h : FT x y) : FT y x := by
  unfold FT at h ⊢
  rw [Int.mul_comm]
  exact h
theorem tm_p {a b : Int64} {w : Int32} (hw : w = 0 ∨ w = 2) (h : FT a b) : f_Model_times a b w = (a * b, w) := by
  unfold f_Model_times
  by_cases h0 : a = 0
  · rw [if_pos (lc_z.mpr h0)]
  · rw [if_neg (fun e => h0 (lc_z.mp e))]
    have hm : ¬ (a = -1 ∧ b = -9223372036854775808) := by
      rintro ⟨e1, e2⟩
      have := h.2
      rw [e1, e2] at this
      exact absurd this (by decide)
    rw [if_pos (lc_z.mpr ((ft_div h0 hm).mpr h))]
    split
    · rename_i q1
      split
      · rename_i q2
        exact absurd ⟨lc_z.mp q1, lc_z.mp q2⟩ hm
      · rfl
    · rfl
theorem tm_n {a b : Int64} {w : Int32} (hw : w = 0 ∨ w = 2) (h : ¬ FT a b) : f_Model_times a b w = (a * b, 2) := by
  unfold f_Model_times
  have h0 : ¬ a = 0 := by
    intro e
    apply h
    rw [e]
    unfold FT
    rw [i64_0, Int.zero_mul]
    decide
  rw [if_neg (fun e => h0 (lc_z.mp e))]
  simp only [lt_]
  rw [st_2 hw]
  by_cases hm : a = -1 ∧ b = -9223372036854775808
  · split
    · rw [if_pos (lc_z.mpr hm.1), if_pos (lc_z.mpr hm.2)]
    · rfl
  · rw [if_neg (fun e => h ((ft_div h0 hm).mp (lc_z.mp e)))]
theorem pr_p {a b : Int64} {w : Int32} (h : FT a b) : f_Reckoner_product a b w = (a * b, w) := by
  unfold f_Reckoner_product
  by_cases h0 : a = 0
  · rw [if_pos (lc_z.mpr h0), h0, Int64.zero_mul]
  · rw [if_neg (fun e => h0 (lc_z.mp e))]
    by_cases h1 : b = 0
    · rw [if_pos (lc_z.mpr h1), h1, Int64.mul_zero]
    · rw [if_neg (fun e => h1 (lc_z.mp e))]
      by_cases h2 : b = -1
      · rw [if_pos (lc_z.mpr h2)]
        have h3 : ¬ a = -9223372036854775808 := by
          intro e
          have := h.2
          rw [e, h2] at this
          exact absurd this (by decide)
        rw [if_neg (fun e => h3 (lc_z.mp e))]
      · rw [if_neg (fun e => h2 (lc_z.mp e))]
        rw [if_pos (lc_z.mpr (by rw [Int64.mul_comm]; exact (ft_div h1 (fun q => h2 q.1)).mpr (ft_c h)))]
theorem pr_n {a b : Int64} {w : Int32} (h : ¬ FT a b) : f_Reckoner_product a b w = (a * b, 2) := by
  unfold f_Reckoner_product
  have h0 : ¬ a = 0 := by
    intro e
    apply h
    rw [e]
    unfold FT
    rw [i64_0, Int.zero_mul]
    decide
  have h1 : ¬ b = 0 := by
    intro e
    apply h
    rw [e]
    unfold FT
    rw [i64_0, Int.mul_zero]
    decide
  rw [if_neg (fun e => h0 (lc_z.mp e)), if_neg (fun e => h1 (lc_z.mp e))]
  by_cases h2 : b = -1
  · rw [if_pos (lc_z.mpr h2)]
    have h3 : a = -9223372036854775808 := by
      apply i64_ext
      have c1 := i64_hi a
      have c2 := i64_lo a
      unfold FT at h
      rw [h2, show (-1 : Int64).toInt = -1 by decide] at h
      rw [i64_MIN]
      omega
    rw [if_pos (lc_z.mpr h3)]
  · rw [if_neg (fun e => h2 (lc_z.mp e))]
    rw [if_neg (fun e => h (ft_c ((ft_div h1 (fun q => h2 q.1)).mp (by rw [Int64.mul_comm]; exact lc_z.mp e))))]
theorem pr_tm (a b : Int64) {w : Int32} (hw : w = 0 ∨ w = 2) : f_Reckoner_product a b w = f_Model_times a b w := by
  by_cases h : FT a b
  · rw [pr_p h, tm_p hw h]
  · rw [pr_n h, tm_n hw h]
theorem tm_2 (a b : Int64) {w : Int32} (hw : w = 0 ∨ w = 2) : (f_Model_times a b w).2 = 0 ∨ (f_Model_times a b w).2 = 2 := by
  by_cases h : FT a b
  · rw [tm_p hw h]; exact hw
  · rw [tm_n hw h]; exact Or.inr rfl
theorem su_pl (a b : Int64) {w : Int32} (hw : w = 0 ∨ w = 2) : f_Reckoner_sum a b w = f_Model_plus a b w := by
  unfold f_Reckoner_sum f_Model_plus
  simp only [lt_]
  rw [st_2 hw]
theorem pl_2 (a b : Int64) {w : Int32} (hw : w = 0 ∨ w = 2) : (f_Model_plus a b w).2 = 0 ∨ (f_Model_plus a b w).2 = 2 := by
  unfold f_Model_plus
  simp only [lt_]
  rw [st_2 hw]
  split
  · exact hw
  · exact Or.inr rfl
theorem di_ls (a b : Int64) {w : Int32} (hw : w = 0 ∨ w = 2) : f_Reckoner_difference a b w = f_Model_less a b w := by
  unfold f_Reckoner_difference f_Model_less
  simp only [lt_]
  rw [st_2 hw]
theorem ls_2w (a b : Int64) {w : Int32} (hw : w = 0 ∨ w = 2) : (f_Model_less a b w).2 = 0 ∨ (f_Model_less a b w).2 = 2 := by
  unfold f_Model_less
  simp only [lt_]
  rw [st_2 hw]
  split
  · exact hw
  · exact Or.inr rfl
/-- Euclid's way, in so many steps at most -/
def eg : Nat → Nat → Nat → Nat
  | 0, a, _ => a
  | n + 1, a, b => if b = 0 then a else eg n b (a % b)
theorem eg_z : ∀ (n a : Nat), eg n a 0 = a := by
  intro n a
  cases n with
  | zero => rfl
  | succ n => exact if_pos rfl
theorem eg_s (n a b : Nat) : eg (n + 1) a b = if b = 0 then a else eg n b (a % b) := rfl
theorem eg_h {b r : Nat} (hr : r < b) (h0 : 0 < r) : 2 * (b % r) < b := by
  have h1 := Nat.mod_lt b h0
  have h2 := Nat.div_add_mod b r
  have h3 : r ≤ r * (b / r) := Nat.le_mul_of_pos_right r (Nat.div_pos (by omega) h0)
  omega
theorem eg_ok : ∀ (k a b : Nat), b < 2 ^ k → eg (2 * k) a b = Nat.gcd a b := by
  intro k
  induction k with
  | zero =>
    intro a b h
    have : b = 0 := by omega
    rw [this, Nat.gcd_zero_right]
    rfl
  | succ k ih =>
    intro a b h
    show eg (2 * k + 1 + 1) a b = _
    unfold eg
    by_cases hb : b = 0
    · rw [if_pos hb, hb, Nat.gcd_zero_right]
    · rw [if_neg hb]
      unfold eg
      have hlt := Nat.mod_lt a (Nat.pos_of_ne_zero hb)
      by_cases hr : a % b = 0
      · rw [if_pos hr, Nat.gcd_comm a b, Nat.gcd_rec b a, hr, Nat.gcd_zero_left]
      · rw [if_neg hr, ih _ _ ?_]
        · have e1 : Nat.gcd (a % b) b = Nat.gcd (b % (a % b)) (a % b) := Nat.gcd_rec _ _
          have e2 : Nat.gcd b a = Nat.gcd (a % b) b := Nat.gcd_rec b a
          rw [Nat.gcd_comm (a % b) (b % (a % b)), ← e1, ← e2, Nat.gcd_comm]
        · have := eg_h hlt (Nat.pos_of_ne_zero hr)
          rw [Nat.pow_succ] at h
          omega
theorem cd_loop (va vb : Int64) : ∀ (n : Nat) (i : Int32) (ga gb : Int64), 0 ≤ i.toInt → i.toInt + (n : Int) = 129 → ga.toInt ≤ 0 → gb.toInt ≤ 0 → 1 ≤ n →
    (f_Reckoner_commonDivisor_L31 va vb n i ga gb).toInt = -((eg (n - 1) ga.toInt.natAbs gb.toInt.natAbs : Nat) : Int) := by
  intro n
  induction n with
  | zero => intro i ga gb h0 h1 h2 h3 h4; omega
  | succ n ih =>
    intro i ga gb h0 h1 h2 h3 h4
    rw [f_Reckoner_commonDivisor_L31_s]
    by_cases c : 128 ≤ i
    · rw [if_pos c]
      rw [oi_le, show (128 : Int32).toInt = 128 by decide] at c
      have : n = 0 := by omega
      rw [this]
      show ga.toInt = -((ga.toInt.natAbs : Nat) : Int)
      omega
    · rw [if_neg c]
      rw [oi_le, show (128 : Int32).toInt = 128 by decide] at c
      by_cases hg : lg_cmp gb 0 = 0
      · rw [if_pos hg]
        have e := lc_z.mp hg
        rw [e, show (0 : Int64).toInt.natAbs = 0 by decide, eg_z]
        omega
      · rw [if_neg hg]
        have hb : ¬ gb = 0 := fun e => hg (lc_z.mpr e)
        have hb0 : gb.toInt ≠ 0 := fun e => hb (i64_ext (by rw [e, i64_0]))
        have e1 : (i + 1).toInt = i.toInt + 1 := oi_addE rfl oi_1 (by omega) (by omega)
        have e2 : (ga - ga / gb * gb).toInt = ga.toInt.tmod gb.toInt := Jvm.Kit.i64_rem _ _
        have e3 : ga.toInt.tmod gb.toInt ≤ 0 := by
          have := Int.tmod_nonneg (a := -ga.toInt) gb.toInt (by omega)
          rw [Int.neg_tmod] at this
          omega
        rw [ih (i + 1) gb (ga - ga / gb * gb) (by omega) (by omega) h3 (by rw [e2]; exact e3) (by omega), e2, Int.natAbs_tmod]
        obtain ⟨n', rfl⟩ : ∃ n', n = n' + 1 := ⟨n - 1, by omega⟩
        show _ = -((eg (n' + 1) ga.toInt.natAbs gb.toInt.natAbs : Nat) : Int)
        rw [eg_s, if_neg (by omega)]
        rfl
theorem cd_neg {x : Int64} : (-x).toInt.natAbs = x.toInt.natAbs := by
  by_cases h : x.toInt = -9223372036854775808
  · have e : x = -9223372036854775808 := i64_ext (by rw [h, i64_MIN])
    rw [e]
    decide
  · rw [Jvm.Kit.i64_neg (by simpa using h)]
    omega
theorem cd_ok {va vb : Int64} (hb : ¬ vb = 0) : (f_Reckoner_commonDivisor va vb).toInt = -((rG va vb : Nat) : Int) := by
  have c0 : ∀ x : Int64, lg_cmp x 0 ≤ 0 ↔ x.toInt ≤ 0 := fun x => by
    rw [lg_cmp_le, Int64.le_iff_toInt_le, i64_0]
  have key : ∀ a b : Int64, a.toInt ≤ 0 → b.toInt ≤ 0 → a.toInt.natAbs = va.toInt.natAbs → b.toInt.natAbs = vb.toInt.natAbs → (f_Reckoner_commonDivisor_L31 va vb 129 0 a b).toInt = -((rG va vb : Nat) : Int) := by
    intro a b h1 h2 h3 h4
    rw [cd_loop va vb 129 0 a b (by decide) (by decide) h1 h2 (by decide)]
    have q := eg_ok 64 a.toInt.natAbs b.toInt.natAbs (by have := i64_lo b; have := i64_hi b; omega)
    rw [show 129 - 1 = 2 * 64 from rfl, q, h3, h4]
    rfl
  have np : ∀ x : Int64, ¬ x.toInt ≤ 0 → (-x).toInt ≤ 0 := fun x h => by
    rw [Jvm.Kit.i64_neg (by omega)]
    omega
  unfold f_Reckoner_commonDivisor
  by_cases h1 : lg_cmp va 0 ≤ 0
  · rw [if_pos h1]
    by_cases h2 : lg_cmp vb 0 ≤ 0
    · rw [if_pos h2]; exact key _ _ ((c0 _).mp h1) ((c0 _).mp h2) rfl rfl
    · rw [if_neg h2]; exact key _ _ ((c0 _).mp h1) (np _ (fun e => h2 ((c0 _).mpr e))) rfl cd_neg
  · rw [if_neg h1]
    by_cases h2 : lg_cmp vb 0 ≤ 0
    · rw [if_pos h2]; exact key _ _ (np _ (fun e => h1 ((c0 _).mpr e))) ((c0 _).mp h2) cd_neg rfl
    · rw [if_neg h2]; exact key _ _ (np _ (fun e => h1 ((c0 _).mpr e))) (np _ (fun e => h2 ((c0 _).mpr e))) cd_neg cd_neg
theorem pu_ok {a b : Int64} {pe : Int32} {ru rl : Nat → Int64} (h0 : 0 ≤ pe.toInt) (h1 : pe.toInt < 19) : f_Reckoner_push a b pe ru rl = (pe + 1, vp_updL ru pe.toNatClampNeg a, vp_updL rl pe.toNatClampNeg b) := by
  unfold f_Reckoner_push
  rw [if_neg (by rw [oi_lt, oi_z]; omega), if_neg (by rw [oi_le, show (19 : Int32).toInt = 19 by decide]; omega), if_neg (by rw [oi_le, show (19 : Int32).toInt = 19 by decide]; omega)]
theorem se_push {va vb x : Int64} {pe : Int32} {ru rl : Nat → Int64} (h0 : 0 ≤ pe.toInt) (h1 : pe.toInt < 19) (hx : ¬ x = 0) : (if lg_cmp x 0 = 0 then (pe, (0 : Int32), ru, rl) else (lt_ (f_Reckoner_push (va / x) (vb / x) pe ru rl) fun z => (z.1, (0 : Int32), z.2.1, z.2.2))) = (pe + 1, 0, vp_updL ru pe.toNatClampNeg (va / x), vp_updL rl pe.toNatClampNeg (vb / x)) := by
  rw [if_neg (fun e => hx (lc_z.mp e))]
  simp only [lt_]
  rw [pu_ok h0 h1]
theorem dv_n {a x : Int64} {g : Nat} (hg : 2 ≤ g) (hx : x.toInt = -(g : Int)) (hd : (g : Int) ∣ a.toInt) : (a / x).toInt = -(a.toInt / (g : Int)) := by
  rw [div_rg (fun e => by rw [e, i64_0] at hx; omega) (fun e => by rw [e, show (-1 : Int64).toInt = -1 by decide] at hx; omega), hx, Int.tdiv_neg, Int.tdiv_eq_ediv_of_dvd hd]
theorem dv_1 {a x : Int64} (hx : x.toInt = -1) (h : ¬ a = -9223372036854775808) : (a / x).toInt = -a.toInt := by
  have h1 := i64_hi a
  have h2 := i64_lo a
  have h3 : a.toInt ≠ -9223372036854775808 := fun e => h (i64_ext (by rw [e, i64_MIN]))
  rw [Int64.toInt_div, hx, Int.tdiv_neg, Int.tdiv_one]
  exact Jvm.Kit.bmod64 (by omega) (by omega)
theorem se_ok {va vb : Int64} {pe : Int32} {ru rl : Nat → Int64} (hb : ¬ vb = 0) (h0 : 0 ≤ pe.toInt) (h1 : pe.toInt < 19) :
    (rOK va vb → ∃ u d : Int64, u.toInt = rU va vb ∧ d.toInt = rD va vb ∧ f_Reckoner_settle va vb pe 0 ru rl = (pe + 1, 0, vp_updL ru pe.toNatClampNeg u, vp_updL rl pe.toNatClampNeg d)) ∧ (¬ rOK va vb → f_Reckoner_settle va vb pe 0 ru rl = (pe, 2, ru, rl)) := by
  have hz := cd_ok (va := va) hb
  have hG := rG_pos (va := va) hb
  have gl := rG_l va vb
  have gr := rG_r va vb
  have hb0 : vb.toInt ≠ 0 := fun e => hb (i64_ext (by rw [e, i64_0]))
  have a1 := i64_hi va
  have a2 := i64_lo va
  have b1 := i64_hi vb
  have b2 := i64_lo vb
  unfold f_Reckoner_settle
  rw [if_pos rfl, if_neg (fun e => hb (lc_z.mp e))]
  generalize hq : f_Reckoner_commonDivisor va vb = z at hz ⊢
  simp only [lt_]
  by_cases hs : 0 ≤ lg_cmp vb 0
  · rw [if_pos hs]
    rw [lg_cmp_ge, Int64.le_iff_toInt_le, i64_0] at hs
    have gle : (rG va vb : Int) ≤ vb.toInt := Int.le_of_dvd (by omega) gr
    have hn : (-z).toInt = (rG va vb : Int) := by
      rw [Jvm.Kit.i64_neg (by rw [hz]; omega), hz]
      omega
    have hx0 : ¬ -z = 0 := fun e => by rw [e, i64_0] at hn; omega
    have hx1 : ¬ lg_cmp (-z) (-1) = 0 := fun e => by
      have := lc_z.mp e
      rw [this, show (-1 : Int64).toInt = -1 by decide] at hn
      omega
    rw [if_neg hx1]
    have e1 : (va / -z).toInt = rU va vb := by
      rw [dv_ex hG hn gl]
      unfold rU
      rw [if_neg (by omega)]
    have e2 : (vb / -z).toInt = rD va vb := by
      rw [dv_ex hG hn gr]
      unfold rD
      rw [if_neg (by omega)]
    have p := se_push (va := va) (vb := vb) (ru := ru) (rl := rl) h0 h1 hx0
    simp only [lt_] at p
    rw [p]
    refine ⟨fun _ => ⟨_, _, e1, e2, rfl⟩, fun h => absurd ⟨?_, ?_⟩ h⟩
    · rw [← e1]; exact i64_hi _
    · rw [← e2]; exact i64_hi _
  · rw [if_neg hs]
    rw [lg_cmp_ge, Int64.le_iff_toInt_le, i64_0] at hs
    have hx0 : ¬ z = 0 := fun e => by rw [e, i64_0] at hz; omega
    have p := se_push (va := va) (vb := vb) (ru := ru) (rl := rl) h0 h1 hx0
    simp only [lt_] at p
    have eU : rU va vb = -(va.toInt / (rG va vb : Int)) := by unfold rU; rw [if_pos (by omega)]
    have eD : rD va vb = -(vb.toInt / (rG va vb : Int)) := by unfold rD; rw [if_pos (by omega)]
    by_cases hx1 : lg_cmp z (-1) = 0
    · rw [if_pos hx1]
      have ez := lc_z.mp hx1
      have e1 : z.toInt = -1 := by rw [ez]; decide
      have hg1 : (rG va vb : Int) = 1 := by omega
      rw [hg1, Int.ediv_one] at eU eD
      by_cases hA : lg_cmp va (-9223372036854775808) = 0
      · rw [if_pos hA]
        refine ⟨fun h => absurd h.1 ?_, fun _ => rfl⟩
        rw [eU, lc_z.mp hA, i64_MIN]
        decide
      · rw [if_neg hA]
        by_cases hB : lg_cmp vb (-9223372036854775808) = 0
        · rw [if_pos hB]
          refine ⟨fun h => absurd h.2 ?_, fun _ => rfl⟩
          rw [eD, lc_z.mp hB, i64_MIN]
          decide
        · rw [if_neg hB, p]
          have q1 := dv_1 e1 (fun e => hA (lc_z.mpr e))
          have q2 := dv_1 e1 (fun e => hB (lc_z.mpr e))
          refine ⟨fun _ => ⟨_, _, q1.trans eU.symm, q2.trans eD.symm, rfl⟩, fun h => absurd ⟨?_, ?_⟩ h⟩
          · rw [eU, ← q1]; exact i64_hi _
          · rw [eD, ← q2]; exact i64_hi _
    · rw [if_neg hx1, p]
      have hg2 : 2 ≤ rG va vb := by
        rcases Nat.lt_or_ge (rG va vb) 2 with h | h
        · exfalso
          apply hx1
          apply lc_z.mpr
          apply i64_ext
          rw [hz, show (-1 : Int64).toInt = -1 by decide]
          omega
        · exact h
      have q1 := dv_n hg2 hz gl
      have q2 := dv_n hg2 hz gr
      refine ⟨fun _ => ⟨_, _, q1.trans eU.symm, q2.trans eD.symm, rfl⟩, fun h => absurd ⟨?_, ?_⟩ h⟩
      · rw [eU, ← q1]; exact i64_hi _
      · rw [eD, ← q2]; exact i64_hi _
