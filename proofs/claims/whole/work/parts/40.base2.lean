theorem oi_addE {a b : Int32} {x y : Int} (ha : a.toInt = x) (hb : b.toInt = y) (h1 : -2147483648 ≤ x + y) (h2 : x + y < 2147483648) : (a + b).toInt = x + y := by
  rw [oi_add (by rw [ha, hb]; exact h1) (by rw [ha, hb]; exact h2), ha, hb]
theorem oi_subE {a b : Int32} {x y : Int} (ha : a.toInt = x) (hb : b.toInt = y) (h1 : -2147483648 ≤ x - y) (h2 : x - y < 2147483648) : (a - b).toInt = x - y := by
  rw [oi_sub (by rw [ha, hb]; exact h1) (by rw [ha, hb]; exact h2), ha, hb]
theorem oi_mulE {a b : Int32} {x y : Int} (ha : a.toInt = x) (hb : b.toInt = y) (h1 : -2147483648 ≤ x * y) (h2 : x * y < 2147483648) : (a * b).toInt = x * y := by
  rw [Int32.toInt_mul, ha, hb]
  exact Int.bmod_eq_of_le (by omega) (by omega)
theorem ib_in {i : Int32} {n : Nat} {x : Int} (h : i.toInt = x) (h0 : 0 ≤ x) (h1 : x < (n : Int)) : vp_in i n := vp_in_iff.mpr (by rw [h]; exact ⟨h0, h1⟩)
theorem ti_eq {a b : Int32} {x y : Int} (ha : a.toInt = x) (hb : b.toInt = y) (h : a = b) : x = y := by rw [← ha, ← hb, h]
theorem ti_ne {a b : Int32} {x y : Int} (ha : a.toInt = x) (hb : b.toInt = y) (h : ¬ a = b) : ¬ x = y := fun e => h (Int32.toInt_inj.mp (by rw [ha, hb, e]))
theorem ti_le {a b : Int32} {x y : Int} (ha : a.toInt = x) (hb : b.toInt = y) (h : a ≤ b) : x ≤ y := by rw [← ha, ← hb]; exact oi_le.mp h
theorem ti_nle {a b : Int32} {x y : Int} (ha : a.toInt = x) (hb : b.toInt = y) (h : ¬ a ≤ b) : y < x := by rw [← ha, ← hb]; rw [oi_le] at h; omega
theorem ti_lt {a b : Int32} {x y : Int} (ha : a.toInt = x) (hb : b.toInt = y) (h : a < b) : x < y := by rw [← ha, ← hb]; exact oi_lt.mp h
theorem ti_nlt {a b : Int32} {x y : Int} (ha : a.toInt = x) (hb : b.toInt = y) (h : ¬ a < b) : y ≤ x := by rw [← ha, ← hb]; rw [oi_lt] at h; omega
