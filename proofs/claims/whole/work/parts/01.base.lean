/-! numbers: bounds of counters, as Int32 -/
def lt_ {α β : Type} (x : α) (k : α → β) : β := k x
theorem lt_e {α β : Type} {z x : α} {k : α → β} (h : z = x) : lt_ x k = k z := by rw [h]; rfl
theorem oi_z : (0 : Int32).toInt = 0 := by decide
theorem oi_add {a b : Int32} (h1 : -2147483648 ≤ a.toInt + b.toInt) (h2 : a.toInt + b.toInt < 2147483648) : (a + b).toInt = a.toInt + b.toInt := by
  rw [Int32.toInt_add]
  exact Int.bmod_eq_of_le (by omega) (by omega)
theorem oi_sub {a b : Int32} (h1 : -2147483648 ≤ a.toInt - b.toInt) (h2 : a.toInt - b.toInt < 2147483648) : (a - b).toInt = a.toInt - b.toInt := by
  rw [Int32.toInt_sub]
  exact Int.bmod_eq_of_le (by omega) (by omega)
theorem oi_hi (a : Int32) : a.toInt < 2147483648 := by have := Int32.toInt_lt a; omega
theorem oi_lo (a : Int32) : -2147483648 ≤ a.toInt := by have := Int32.le_toInt a; omega
theorem oi_1 : (1 : Int32).toInt = 1 := by decide
theorem oi_lt {a b : Int32} : a < b ↔ a.toInt < b.toInt := Int32.lt_iff_toInt_lt
theorem oi_le {a b : Int32} : a ≤ b ↔ a.toInt ≤ b.toInt := Int32.le_iff_toInt_le
theorem oi_n0 {x : Int32} (h : 0 ≤ x) : ¬ x < 0 := by rw [oi_le, oi_z] at h; rw [oi_lt, oi_z]; omega
theorem oi_in {i N : Int32} {n : Nat} (hN : N.toInt = (n : Int)) (h0 : ¬ i < 0) (h1 : ¬ N ≤ i) : vp_in i n := by
  rw [vp_in_iff]
  rw [oi_lt, oi_z] at h0
  rw [oi_le, hN] at h1
  omega
theorem oi_in1 {i N : Int32} {n : Nat} (hN : N.toInt = (n : Int)) (h0 : ¬ i ≤ 0) (h1 : ¬ N < i) : vp_in (i - 1) n := by
  rw [vp_in_iff]
  rw [oi_le, oi_z] at h0
  rw [oi_lt, hN] at h1
  have h2 := oi_hi i
  rw [oi_sub (by rw [oi_1]; omega) (by rw [oi_1]; omega), oi_1]
  omega
theorem oi_nz {y : Int64} (h : ¬ lg_cmp y 0 = 0) : ¬ y = 0 := by
  intro e
  rw [e] at h
  exact h (by decide)
theorem oi_s {i N : Int32} {k : Int} {n : Nat} (h0 : ¬ i < 0) (h1 : ¬ N ≤ i) (hN : N.toInt = k) (hn : (k - i.toInt).toNat < n + 1) : ¬ i + 1 < 0 ∧ (k - (i + 1).toInt).toNat < n := by
  rw [oi_lt, oi_z] at h0
  rw [oi_le, hN] at h1
  have h2 := oi_hi N
  have h3 : (i + 1).toInt = i.toInt + 1 := by rw [oi_add (by rw [oi_1]; omega) (by rw [oi_1]; omega), oi_1]
  rw [oi_lt, oi_z, h3]
  omega
theorem oi_t {i N : Int32} {k : Int} {n : Nat} (h0 : ¬ i < 0) (h1 : ¬ N < i) (hN : N.toInt + 1 = k) (hn : (k - i.toInt).toNat < n + 1) (hk : k ≤ 2000000000 := by decide) : ¬ i + 1 < 0 ∧ (k - (i + 1).toInt).toNat < n := by
  rw [oi_lt, oi_z] at h0
  rw [oi_lt] at h1
  have h2 := oi_hi N
  have h3 : (i + 1).toInt = i.toInt + 1 := by rw [oi_add (by rw [oi_1]; omega) (by rw [oi_1]; omega), oi_1]
  rw [oi_lt, oi_z, h3]
  omega
theorem oi_u {i b : Int32} {n : Nat} (h : ¬ b ≤ i) (hn : (b.toInt - i.toInt).toNat < n + 1) : (b.toInt - (i + 1).toInt).toNat < n := by
  rw [oi_le] at h
  have h2 := oi_hi b
  have h4 := oi_lo i
  have h3 : (i + 1).toInt = i.toInt + 1 := by rw [oi_add (by rw [oi_1]; omega) (by rw [oi_1]; omega), oi_1]
  rw [h3]
  omega
theorem oi_f {i : Int32} {k : Int} {n : Nat} (h0 : ¬ i < 0) (h : k.toNat < n) : (k - i.toInt).toNat < n := by
  rw [oi_lt, oi_z] at h0
  omega
theorem oi_g {i : Int32} (h0 : ¬ i < 0) (h1 : i.toInt < 2000000000) : ¬ i + 1 < 0 := by
  rw [oi_lt, oi_z] at h0
  have h3 : (i + 1).toInt = i.toInt + 1 := by rw [oi_add (by rw [oi_1]; omega) (by rw [oi_1]; omega), oi_1]
  rw [oi_lt, oi_z, h3]
  omega
theorem oi_x0 {x sl : Int32} (h1 : ¬ sl < 0) (h2 : ¬ x < sl) : ¬ x < 0 := by
  rw [oi_lt, oi_z] at h1
  rw [oi_lt] at h2
  rw [oi_lt, oi_z]
  omega
theorem oi_x1 {x sl N : Int32} (h2 : ¬ x < sl) (h3 : ¬ N ≤ x) : ¬ N ≤ sl := by
  rw [oi_lt] at h2
  rw [oi_le] at h3
  rw [oi_le]
  omega
theorem oi_m8 : (-8 : Int32).toInt = -8 := by decide
theorem oi_d {sh : Int32} {n : Nat} (h : ¬ sh < 0) (hn : (sh.toInt + 8).toNat / 8 < n + 1) : ((sh + (-8)).toInt + 8).toNat / 8 < n := by
  rw [oi_lt, oi_z] at h
  have h2 := oi_hi sh
  have h3 : (sh + (-8)).toInt = sh.toInt + (-8) := by rw [oi_add (by rw [oi_m8]; omega) (by rw [oi_m8]; omega), oi_m8]
  rw [h3]
  omega
theorem ka_B {D : va_G} {cl : List vw_C} {s : State} {cB cI cJ cA : ClassId} (h : va_K D cl ([(cB, FieldType.byte), (cI, .int), (cJ, .long)] ++ [(cA, .byte)]) s) : cA = cB :=
  Option.some.inj ((show s.vm.findClass _ = some cA from (h.2 3 (cA, .byte) rfl).2).symm.trans (show s.vm.findClass _ = some cB from (h.2 0 (cB, .byte) rfl).2))
theorem ka_I {D : va_G} {cl : List vw_C} {s : State} {cB cI cJ cA : ClassId} (h : va_K D cl ([(cB, FieldType.byte), (cI, .int), (cJ, .long)] ++ [(cA, .int)]) s) : cA = cI :=
  Option.some.inj ((show s.vm.findClass _ = some cA from (h.2 3 (cA, .int) rfl).2).symm.trans (show s.vm.findClass _ = some cI from (h.2 1 (cI, .int) rfl).2))
theorem ka_J {D : va_G} {cl : List vw_C} {s : State} {cB cI cJ cA : ClassId} (h : va_K D cl ([(cB, FieldType.byte), (cI, .int), (cJ, .long)] ++ [(cA, .long)]) s) : cA = cJ :=
  Option.some.inj ((show s.vm.findClass _ = some cA from (h.2 3 (cA, .long) rfl).2).symm.trans (show s.vm.findClass _ = some cJ from (h.2 2 (cJ, .long) rfl).2))
theorem oi_r (b : Int32) : (b.toInt - (0 : Int32).toInt).toNat < b.toInt.toNat + 1 := by rw [oi_z]; omega
theorem oi_8 : (8 : Int32).toInt = 8 := by decide
theorem oi_v {i b : Int32} {n : Nat} (h8 : ¬ 8 < b) (h : ¬ b < i) (hn : (b.toInt + 1 - i.toInt).toNat < n + 1) : (b.toInt + 1 - (i + 1).toInt).toNat < n := by
  rw [oi_lt, oi_8] at h8
  rw [oi_lt] at h
  have h4 := oi_lo i
  have h3 : (i + 1).toInt = i.toInt + 1 := by rw [oi_add (by rw [oi_1]; omega) (by rw [oi_1]; omega), oi_1]
  rw [h3]
  omega
theorem oi_w {b : Int32} (h8 : ¬ 8 < b) : (b.toInt + 1 - (1 : Int32).toInt).toNat < 9 := by
  rw [oi_lt, oi_8] at h8
  rw [oi_1]
  omega
