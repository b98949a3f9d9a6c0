/-! bytes and names -/
theorem u32_s (f : Nat → Int32) (k : Nat) (x : Int32) : upd f k x k = x := if_pos rfl
theorem u32_n (f : Nat → Int32) {k j : Nat} (x : Int32) (h : j ≠ k) : upd f k x j = f j := if_neg h
theorem by_1 (x : BitVec 64) (n : Nat) : ((x >>> n).signExtend 32 &&& 255#32).toNat = x.toNat / 2 ^ n % 256 := by
  rw [BitVec.toNat_and, BitVec.signExtend_eq_setWidth_of_le _ (by decide), BitVec.toNat_setWidth, BitVec.toNat_ushiftRight, Nat.shiftRight_eq_div_pow]
  show (x.toNat / 2 ^ n) % 2 ^ 32 &&& (2 ^ 8 - 1) = _
  rw [Nat.and_two_pow_sub_one_eq_mod]
  exact Nat.mod_mod_of_dvd _ (by decide)
theorem by_ss (x : BitVec 64) (n : Nat) (h : n ≤ 56) : x.sshiftRight n &&& 255#64 = (x >>> n) &&& 255#64 := by
  apply BitVec.eq_of_getLsbD_eq
  intro i hi
  rw [BitVec.getLsbD_and, BitVec.getLsbD_and, BitVec.getLsbD_sshiftRight, BitVec.getLsbD_ushiftRight]
  by_cases h8 : i < 8
  · rw [if_pos (by omega), decide_eq_false (by omega)]
    rfl
  · have e : (255#64).getLsbD i = false := by
      show Nat.testBit (2 ^ 8 - 1) i = false
      rw [Nat.testBit_two_pow_sub_one]
      exact decide_eq_false h8
    rw [e, Bool.and_false, Bool.and_false]
theorem by_2 (x : BitVec 64) (n : Nat) (h : n ≤ 56) : ((x.sshiftRight n &&& 255#64).signExtend 32).toNat = x.toNat / 2 ^ n % 256 := by
  rw [by_ss x n h, BitVec.signExtend_eq_setWidth_of_le _ (by decide), BitVec.toNat_setWidth, BitVec.toNat_and, BitVec.toNat_ushiftRight, Nat.shiftRight_eq_div_pow]
  show ((x.toNat / 2 ^ n) &&& (2 ^ 8 - 1)) % 2 ^ 32 = _
  rw [Nat.and_two_pow_sub_one_eq_mod]
  exact Nat.mod_eq_of_lt (by have := Nat.mod_lt (x.toNat / 2 ^ n) (show 0 < 2 ^ 8 by decide); omega)
theorem by_s : ∀ s : Nat, s < 8 → (((nI (8 * s)).toInt64.toUInt64 &&& Int64.toUInt64 63).toBitVec % 64#64).toNat = 8 * s ∧ (((nI (8 * s)).toInt64 &&& 63).toBitVec.smod 64#64).toNat = 8 * s := by decide +kernel
def BN (wd : Int64) (s : Nat) : Nat := wd.toBitVec.toNat / 2 ^ (8 * s) % 256
theorem bn_lt (wd : Int64) (s : Nat) : BN wd s < 256 := Nat.mod_lt _ (by decide)
theorem i32_n {x : Int32} (h : x.toBitVec.toNat < 256) : x.toInt = (x.toBitVec.toNat : Int) := BitVec.toInt_eq_toNat_of_lt (by omega)
theorem by_c {wd : Int64} {s : Nat} (h : s < 8) : (f_PR_byteAt wd (nI (8 * s))).toInt = (BN wd s : Int) := by
  have e : (f_PR_byteAt wd (nI (8 * s))).toBitVec.toNat = BN wd s := by
    have e1 : (f_PR_byteAt wd (nI (8 * s))).toBitVec = (wd.toBitVec >>> (((nI (8 * s)).toInt64.toUInt64 &&& Int64.toUInt64 63).toBitVec % 64#64).toNat).signExtend 32 &&& 255#32 := rfl
    rw [e1, (by_s s h).1]
    exact by_1 _ _
  rw [i32_n (by rw [e]; exact bn_lt wd s), e]
theorem by_m {wd : Int64} {s : Nat} (h : s < 8) : (by_ wd (nI (8 * s))).toInt = (BN wd s : Int) := by
  have e : (by_ wd (nI (8 * s))).toBitVec.toNat = BN wd s := by
    have e1 : (by_ wd (nI (8 * s))).toBitVec = (wd.toBitVec.sshiftRight (((nI (8 * s)).toInt64 &&& 63).toBitVec.smod 64#64).toNat &&& 255#64).signExtend 32 := rfl
    rw [e1, (by_s s h).2]
    exact by_2 _ _ (by omega)
  rw [i32_n (by rw [e]; exact bn_lt wd s), e]
theorem by_eq {wd : Int64} {s : Nat} (h : s < 8) : f_PR_byteAt wd (nI (8 * s)) = by_ wd (nI (8 * s)) := i32_ext (by rw [by_c h, by_m h])
def LTT (c : Nat) : Prop := 97 ≤ c ∧ c ≤ 122
def PW (i : Nat) : Nat := 2 ^ (8 * i)
theorem pw_s (i : Nat) : PW (i + 1) = 256 * PW i := by
  unfold PW
  rw [show 8 * (i + 1) = 8 * i + 8 by omega, Nat.pow_add]
  omega
theorem pw_p (i : Nat) : 0 < PW i := Nat.pow_pos (by decide)
theorem pw_m {i j : Nat} (h : i ≤ j) : PW i ≤ PW j := Nat.pow_le_pow_right (by decide) (by omega)
/-- a number that is a name -/
def NM (N : Nat) : Prop := ∃ k, 1 ≤ k ∧ k ≤ 8 ∧ N < PW k ∧ ∀ i, i < k → LTT (N / PW i % 256)
theorem nm_no {N j : Nat} (h : PW j ≤ N) (hl : ¬ LTT (N / PW j % 256)) : ¬ NM N := by
  rintro ⟨k, -, -, h1, h2⟩
  rcases Nat.lt_or_ge j k with hj | hj
  · exact hl (h2 j hj)
  · have := pw_m hj
    omega
def nmI (p : Prop) (x : Int32) : Prop := (x = 1 ∧ p) ∨ (x = 0 ∧ ¬ p)
theorem nmi_eq {p : Prop} {x y : Int32} (h : nmI p x) (g : nmI p y) : x = y := by
  rcases h with ⟨a, b⟩ | ⟨a, b⟩ <;> rcases g with ⟨c, d⟩ | ⟨c, d⟩
  · rw [a, c]
  · exact absurd b d
  · exact absurd d b
  · rw [a, c]
theorem le_z {le : Int64} : lg_cmp le 0 = 0 ↔ le.toBitVec.toNat = 0 := by
  rw [lc_z]
  constructor
  · intro h; rw [h]; decide
  · intro h
    apply Int64.toBitVec_inj.mp
    apply BitVec.eq_of_toNat_eq
    rw [h]
    decide
theorem le_255 {le : Int64} : (le &&& 255).toInt = ((le.toBitVec.toNat % 256 : Nat) : Int) := by
  have e : (le &&& 255).toBitVec.toNat = le.toBitVec.toNat % 256 := by
    rw [Int64.toBitVec_and, BitVec.toNat_and]
    show le.toBitVec.toNat &&& (2 ^ 8 - 1) = _
    exact Nat.and_two_pow_sub_one_eq_mod _ _
  have l : le.toBitVec.toNat % 256 < 256 := Nat.mod_lt _ (by decide)
  show (le &&& 255).toBitVec.toInt = _
  rw [BitVec.toInt_eq_toNat_of_lt (by rw [e]; omega), e]
theorem le_8 {le : Int64} : ((le.toUInt64 >>> ((8 : Int32).toInt64.toUInt64 &&& Int64.toUInt64 63)).toInt64).toBitVec.toNat = le.toBitVec.toNat / 256 := by
  have e : ((le.toUInt64 >>> ((8 : Int32).toInt64.toUInt64 &&& Int64.toUInt64 63)).toInt64).toBitVec = le.toBitVec >>> (((8 : Int32).toInt64.toUInt64 &&& Int64.toUInt64 63).toBitVec % 64#64).toNat := rfl
  rw [e, show (((8 : Int32).toInt64.toUInt64 &&& Int64.toUInt64 63).toBitVec % 64#64).toNat = 8 by decide, BitVec.toNat_ushiftRight, Nat.shiftRight_eq_div_pow]
theorem in_lt {le : Int64} : f_Model_in (le &&& 255) 97 122 = 0 ↔ ¬ LTT (le.toBitVec.toNat % 256) := by
  rw [in_0, le_255, show (97 : Int64).toInt = 97 by decide, show (122 : Int64).toInt = 122 by decide]
  unfold LTT
  omega
theorem mn_l (nm : Int64) : ∀ (n m : Nat) (le : Int64) (k : Int32), n + m = 9 → k.toInt = (m : Int) → le.toBitVec.toNat = nm.toBitVec.toNat / PW m → (∀ i, i < m → LTT (nm.toBitVec.toNat / PW i % 256)) → 1 ≤ n → nmI (NM nm.toBitVec.toNat) (f_Model_isName_L5 nm n le k) := by
  intro n
  induction n with
  | zero => intro m le k h1 h2 h3 h4 h5; omega
  | succ n ih =>
    intro m le k h1 h2 h3 h4 h5
    have N64 : nm.toBitVec.toNat < PW 8 := nm.toBitVec.isLt
    have pm := pw_p m
    rw [f_Model_isName_L5_s]
    by_cases hz : lg_cmp le 0 = 0
    · rw [if_pos hz, if_pos hz]
      rw [le_z, h3] at hz
      have hN : nm.toBitVec.toNat < PW m := (Nat.div_eq_zero_iff_lt pm).mp hz
      by_cases hk : k ≤ 0
      · rw [if_pos hk]
        rw [oi_le, oi_z] at hk
        have m0 : m = 0 := by omega
        rw [m0] at hN
        have : nm.toBitVec.toNat = 0 := by have : PW 0 = 1 := rfl; omega
        refine Or.inr ⟨rfl, ?_⟩
        rintro ⟨k', a, b, c, d⟩
        have := (d 0 (by omega)).1
        rw [show nm.toBitVec.toNat = 0 from ‹_›] at this
        simp at this
      · rw [if_neg hk]
        rw [oi_le, oi_z] at hk
        exact Or.inl ⟨rfl, m, by omega, by omega, hN, h4⟩
    · have hz' := hz
      rw [le_z, h3] at hz'
      have hN : PW m ≤ nm.toBitVec.toNat := by
        rcases Nat.lt_or_ge nm.toBitVec.toNat (PW m) with q | q
        · exact absurd (Nat.div_eq_of_lt q) hz'
        · exact q
      have m8 : m < 8 := by
        rcases Nat.lt_or_ge m 8 with q | q
        · exact q
        · have := pw_m q
          omega
      rw [if_neg hz, if_neg (by rw [oi_le, oi_8]; omega), if_neg hz]
      simp only [lt_]
      by_cases hi : f_Model_in (le &&& 255) 97 122 = 0
      · rw [if_pos hi]
        rw [in_lt, h3] at hi
        have := nm_no hN hi
        split <;> exact Or.inr ⟨rfl, this⟩
      · rw [if_neg hi]
        rw [in_lt, h3] at hi
        have hi := Classical.not_not.mp hi
        refine ih (m + 1) _ (k + 1) (by omega) (oi_addE h2 oi_1 (by omega) (by omega)) ?_ (fun i hi2 => ?_) (by omega)
        · rw [le_8, h3, pw_s, Nat.mul_comm, Nat.div_div_eq_div_mul]
        · rcases Nat.lt_or_eq_of_le (Nat.le_of_lt_succ hi2) with q | q
          · exact h4 i q
          · rw [q]; exact hi
theorem mn_w (nm : Int64) : nmI (NM nm.toBitVec.toNat) (f_Model_isName nm) := by
  refine mn_l nm 9 0 nm 0 (by decide) (by decide) ?_ (fun i hi => by omega) (by decide)
  rw [show PW 0 = 1 from rfl, Nat.div_one]
theorem il_z {c : Int32} {b : Nat} (h : c.toInt = (b : Int)) : f_PR_isLetter c = 0 ↔ ¬ LTT b := by
  unfold f_PR_isLetter LTT
  by_cases h1 : c < 97
  · rw [if_pos h1]
    rw [oi_lt, show (97 : Int32).toInt = 97 by decide] at h1
    exact ⟨fun _ => by omega, fun _ => rfl⟩
  · rw [if_neg h1]
    rw [oi_lt, show (97 : Int32).toInt = 97 by decide] at h1
    by_cases h2 : 122 < c
    · rw [if_pos h2]
      rw [oi_lt, show (122 : Int32).toInt = 122 by decide] at h2
      exact ⟨fun _ => by omega, fun _ => rfl⟩
    · rw [if_neg h2]
      rw [oi_lt, show (122 : Int32).toInt = 122 by decide] at h2
      exact ⟨fun e => absurd e (by decide), fun e => absurd ⟨by omega, by omega⟩ e⟩
theorem sh_n {sh : Int32} {j : Nat} (h : sh.toInt = 8 * (j + 1 : Nat) - 8) (hj : j < 8) : sh = nI (8 * j) ∧ (sh + (-8)).toInt = 8 * (j : Int) - 8 := by
  refine ⟨i32_ext (by rw [nI_toInt (by omega)]; omega), ?_⟩
  have e : (sh + (-8)).toInt = sh.toInt + (-8) := oi_addE rfl oi_m8 (by omega) (by omega)
  omega
theorem cn_l (nm : Int64) : ∀ (j : Nat) (sh bg : Int32), j ≤ 8 → sh.toInt = 8 * (j : Int) - 8 → ((bg = 0 ∧ nm.toBitVec.toNat < PW j) ∨ (bg = 1 ∧ ∃ k, j < k ∧ k ≤ 8 ∧ nm.toBitVec.toNat < PW k ∧ PW (k - 1) ≤ nm.toBitVec.toNat ∧ ∀ i, j ≤ i → i < k → LTT (nm.toBitVec.toNat / PW i % 256))) → nmI (NM nm.toBitVec.toNat) (f_PR_isName_L5 nm (j + 1) sh bg) := by
  intro j
  induction j with
  | zero =>
    intro sh bg h1 h2 h3
    rw [f_PR_isName_L5_s, if_pos (by rw [oi_lt, oi_z]; omega)]
    rcases h3 with ⟨a, b⟩ | ⟨a, k, b, c, d, e, f⟩
    · refine Or.inr ⟨a, ?_⟩
      have z : nm.toBitVec.toNat = 0 := by have : PW 0 = 1 := rfl; omega
      rintro ⟨k', p, q, s, t⟩
      have := (t 0 (by omega)).1
      rw [z] at this
      simp at this
    · exact Or.inl ⟨a, k, by omega, c, d, fun i hi => f i (by omega) hi⟩
  | succ j ih =>
    intro sh bg h1 h2 h3
    obtain ⟨s1, s2⟩ := sh_n (j := j) (by omega) (by omega)
    rw [f_PR_isName_L5_s, if_neg (by rw [oi_lt, oi_z]; omega)]
    simp only [lt_]
    have bc := by_c (wd := nm) (s := j) (by omega)
    rw [← s1] at bc
    have il := il_z bc
    have z0 : f_PR_byteAt nm sh = 0 ↔ BN nm j = 0 := ⟨fun e => by rw [e, oi_z] at bc; omega, fun e => i32_ext (by rw [bc, oi_z, e]; rfl)⟩
    have bnd : BN nm j = nm.toBitVec.toNat / PW j % 256 := rfl
    rw [bnd] at il z0
    have ps := pw_s j
    have pp := pw_p j
    have lett : ∀ P : Prop, (¬ LTT (nm.toBitVec.toNat / PW j % 256) → ¬ NM nm.toBitVec.toNat) → (LTT (nm.toBitVec.toNat / PW j % 256) → nmI (NM nm.toBitVec.toNat) (f_PR_isName_L5 nm (j + 1) (sh + (-8)) 1)) → nmI (NM nm.toBitVec.toNat) (if f_PR_isLetter (f_PR_byteAt nm sh) = 0 then 0 else f_PR_isName_L5 nm (j + 1) (sh + (-8)) 1) := by
      intro P a b
      by_cases h : f_PR_isLetter (f_PR_byteAt nm sh) = 0
      · rw [if_pos h]
        exact Or.inr ⟨rfl, a (il.mp h)⟩
      · rw [if_neg h]
        exact b (Classical.not_not.mp (fun e => h (il.mpr e)))
    rcases h3 with ⟨a, b⟩ | ⟨a, k, b, c, d, e, f⟩
    · by_cases hz : f_PR_byteAt nm sh = 0
      · rw [if_pos hz, if_pos a]
        rw [z0] at hz
        refine ih (sh + (-8)) bg (by omega) s2 (Or.inl ⟨a, ?_⟩)
        have q : nm.toBitVec.toNat / PW j < 256 := (Nat.div_lt_iff_lt_mul pp).mpr (by omega)
        rw [Nat.mod_eq_of_lt q] at hz
        exact (Nat.div_eq_zero_iff_lt pp).mp hz
      · rw [if_neg hz]
        rw [z0] at hz
        have hN : PW j ≤ nm.toBitVec.toNat := by
          rcases Nat.lt_or_ge nm.toBitVec.toNat (PW j) with q | q
          · rw [Nat.div_eq_of_lt q] at hz
            exact absurd rfl hz
          · exact q
        refine lett True (fun h => nm_no hN h) (fun h => ih (sh + (-8)) 1 (by omega) s2 (Or.inr ⟨rfl, j + 1, by omega, by omega, b, hN, fun i hi1 hi2 => ?_⟩))
        rw [show i = j by omega]
        exact h
    · have a' : ¬ bg = 0 := by rw [a]; decide
      have hN : PW j ≤ nm.toBitVec.toNat := Nat.le_trans (pw_m (by omega)) e
      have fin := lett True (fun h => nm_no hN h) (fun h => ih (sh + (-8)) 1 (by omega) s2 (Or.inr ⟨rfl, k, by omega, c, d, e, fun i hi1 hi2 => by
        rcases Nat.lt_or_eq_of_le hi1 with q | q
        · exact f i q hi2
        · rw [← q]; exact h⟩))
      by_cases hz : f_PR_byteAt nm sh = 0
      · rw [if_pos hz, if_neg a']
        exact fin
      · rw [if_neg hz]
        exact fin
theorem cn_w (nm : Int64) : nmI (NM nm.toBitVec.toNat) (f_PR_isName nm) := cn_l nm 8 56 0 (by decide) (by decide) (Or.inl ⟨rfl, nm.toBitVec.isLt⟩)
theorem nm_eq (nm : Int64) : f_PR_isName nm = f_Model_isName nm := nmi_eq (cn_w nm) (mn_w nm)
/-! say -/
/-- the text is alike -/
def RT (tl : Int32) (tf : Nat → Int32) (ml : Int32) (mt : Nat → Int32) : Prop := tl = ml ∧ 0 ≤ tl.toInt ∧ tl.toInt ≤ 800 ∧ ∀ j : Nat, (j : Int) < tl.toInt → tf j = mt j ∧ 32 ≤ (mt j).toInt ∧ (mt j).toInt ≤ 126
theorem k_8 {k : Int32} {j : Nat} (h : k.toInt = 8 * (j + 1 : Nat) - 8) (hj : j < 8) : k - 8 = k + (-8) := by
  have a : (k - 8).toInt = k.toInt - 8 := oi_subE rfl oi_8 (by omega) (by omega)
  have b : (k + (-8)).toInt = k.toInt + (-8) := oi_addE rfl oi_m8 (by omega) (by omega)
  exact i32_ext (by rw [a, b]; omega)
def GB (wd : Int64) (s : Nat) : Prop := BN wd s = 0 ∨ (32 ≤ BN wd s ∧ BN wd s ≤ 126)
theorem bcn (wd : Int64) (j : Nat) (h : j < 8) : bc wd (j + 1) = bc wd j + if BN wd j = 0 then 0 else 1 := by
  have e : by_ wd (nI (8 * j)) = 0 ↔ BN wd j = 0 := ⟨fun e => by have := by_m (wd := wd) h; rw [e, oi_z] at this; omega, fun e => i32_ext (by rw [by_m h, oi_z, e]; rfl)⟩
  show bc wd j + (if by_ wd (nI (8 * j)) = 0 then 0 else 1) = _
  by_cases h : BN wd j = 0
  · rw [if_pos h, if_pos (e.mpr h)]
  · rw [if_neg h, if_neg (fun q => h (e.mp q))]
theorem ch_l (wd : Int64) : ∀ (j : Nat) (sh ct : Int32), j ≤ 8 → sh.toInt = 8 * (j : Int) - 8 → 0 ≤ ct.toInt → ct.toInt + (j : Int) ≤ 8 → (f_PR_charactersIn_L5 wd (j + 1) sh ct = -1 ∧ ¬ ∀ s, s < j → GB wd s) ∨ ((f_PR_charactersIn_L5 wd (j + 1) sh ct).toInt = ct.toInt + (bc wd j : Int) ∧ ∀ s, s < j → GB wd s) := by
  intro j
  induction j with
  | zero =>
    intro sh ct h1 h2 h3 h4
    rw [f_PR_charactersIn_L5_s, if_pos (by rw [oi_lt, oi_z]; omega)]
    exact Or.inr ⟨by show _ = ct.toInt + ((0 : Nat) : Int); omega, fun s hs => by omega⟩
  | succ j ih =>
    intro sh ct h1 h2 h3 h4
    obtain ⟨s1, s2⟩ := sh_n (j := j) (by omega) (by omega)
    have bcv := by_c (wd := wd) (s := j) (by omega)
    rw [← s1] at bcv
    have cs := bcn wd j (by omega)
    rw [f_PR_charactersIn_L5_s, if_neg (by rw [oi_lt, oi_z]; omega)]
    simp only [lt_]
    have ext : ∀ {P : Prop}, GB wd j → (P ∧ ¬ ∀ s, s < j → GB wd s) → (P ∧ ¬ ∀ s, s < j + 1 → GB wd s) := fun g h => ⟨h.1, fun q => h.2 (fun s hs => q s (by omega))⟩
    have ext2 : GB wd j → (∀ s, s < j → GB wd s) → ∀ s, s < j + 1 → GB wd s := fun g h s hs => by
      rcases Nat.lt_or_eq_of_le (Nat.le_of_lt_succ hs) with q | q
      · exact h s q
      · rw [q]; exact g
    by_cases hz : f_PR_byteAt wd sh = 0
    · rw [if_pos hz]
      have b0 : BN wd j = 0 := by rw [hz, oi_z] at bcv; omega
      rw [if_pos b0] at cs
      rcases ih (sh + (-8)) ct (by omega) s2 h3 (by omega) with q | q
      · exact Or.inl (ext (Or.inl b0) q)
      · exact Or.inr ⟨by rw [cs]; exact q.1, ext2 (Or.inl b0) q.2⟩
    · rw [if_neg hz]
      have b0 : ¬ BN wd j = 0 := fun e => hz (i32_ext (by rw [bcv, oi_z, e]; rfl))
      rw [if_neg b0] at cs
      by_cases c1 : f_PR_byteAt wd sh < 32
      · rw [if_pos c1]
        rw [oi_lt, bcv, show (32 : Int32).toInt = 32 by decide] at c1
        exact Or.inl ⟨rfl, fun q => by have := q j (by omega); unfold GB at this; omega⟩
      · rw [if_neg c1]
        rw [oi_lt, bcv, show (32 : Int32).toInt = 32 by decide] at c1
        by_cases c2 : f_PR_byteAt wd sh ≤ 126
        · rw [if_pos c2]
          rw [oi_le, bcv, show (126 : Int32).toInt = 126 by decide] at c2
          have g : GB wd j := Or.inr ⟨by omega, by omega⟩
          have e1 : (ct + 1).toInt = ct.toInt + 1 := oi_addE rfl oi_1 (by omega) (by omega)
          rcases ih (sh + (-8)) (ct + 1) (by omega) s2 (by omega) (by omega) with q | q
          · exact Or.inl (ext g q)
          · exact Or.inr ⟨by rw [cs, q.1, e1]; omega, ext2 g q.2⟩
        · rw [if_neg c2]
          rw [oi_le, bcv, show (126 : Int32).toInt = 126 by decide] at c2
          exact Or.inl ⟨rfl, fun q => by have := q j (by omega); unfold GB at this; omega⟩
theorem sy_x (wd : Int64) (ml : Int32) (mt : Nat → Int32) {xt : Int32} (h : xt = 1 ∨ xt = 2) : f_Model_say_L117 wd ml mt 9 56 xt ml mt = (0, xt, ml, mt) := by
  rw [f_Model_say_L117_s, if_neg (by decide)]
  rcases h with h | h <;> rw [h, if_neg (by decide), if_neg (by decide)]
theorem sy_1 (wd : Int64) (ml : Int32) (mt : Nat → Int32) : ∀ (j : Nat) (k mo : Int32), j ≤ 8 → k.toInt = 8 * (j : Int) - 8 → f_Model_say_L11 wd ml mt (j + 1) k mo 1 = (0, 1, ml, mt) := by
  intro j
  induction j with
  | zero =>
    intro k mo h1 h2
    rw [f_Model_say_L11_s, if_pos (by rw [oi_lt, oi_z]; omega), if_neg (by decide), sy_x wd ml mt (Or.inl rfl)]
  | succ j ih =>
    intro k mo h1 h2
    obtain ⟨s1, s2⟩ := sh_n (j := j) (by omega) (by omega)
    rw [f_Model_say_L11_s, if_neg (by rw [oi_lt, oi_z]; omega), k_8 (j := j) (by omega) (by omega)]
    simp only [lt_]
    rw [ih _ _ (by omega) s2, ih _ _ (by omega) s2]
    repeat' split
    all_goals rfl
theorem sy_0 (wd : Int64) (ml : Int32) (mt : Nat → Int32) : ∀ (j : Nat) (k mo : Int32), j ≤ 8 → k.toInt = 8 * (j : Int) - 8 → 0 ≤ mo.toInt → mo.toInt + (j : Int) ≤ 8 → ((∀ s, s < j → GB wd s) → ∃ c : Int32, c.toInt = mo.toInt + (bc wd j : Int) ∧ f_Model_say_L11 wd ml mt (j + 1) k mo 0 = (if ml + c ≤ 800 then f_Model_say_L117 wd ml mt 9 56 0 ml mt else (0, 2, ml, mt))) ∧ ((¬ ∀ s, s < j → GB wd s) → f_Model_say_L11 wd ml mt (j + 1) k mo 0 = (0, 1, ml, mt)) := by
  intro j
  induction j with
  | zero =>
    intro k mo h1 h2 h3 h4
    rw [f_Model_say_L11_s, if_pos (by rw [oi_lt, oi_z]; omega), if_pos rfl, sy_x wd ml mt (Or.inr rfl)]
    exact ⟨fun _ => ⟨mo, by show _ = mo.toInt + ((0 : Nat) : Int); omega, rfl⟩, fun h => absurd (fun s hs => by omega) h⟩
  | succ j ih =>
    intro k mo h1 h2 h3 h4
    obtain ⟨s1, s2⟩ := sh_n (j := j) (by omega) (by omega)
    have bm := by_m (wd := wd) (s := j) (by omega)
    rw [← s1] at bm
    have cs := bcn wd j (by omega)
    rw [f_Model_say_L11_s, if_neg (by rw [oi_lt, oi_z]; omega), k_8 (j := j) (by omega) (by omega)]
    simp only [lt_]
    show (_ → ∃ c : Int32, _ ∧ (if by_ wd k = 0 then (if by_ wd k = 0 then f_Model_say_L11 wd ml mt (j + 1) (k + (-8)) mo 0 else f_Model_say_L11 wd ml mt (j + 1) (k + (-8)) (mo + 1) 0) else (if f_Model_in (by_ wd k).toInt64 32 126 = 0 then (if by_ wd k = 0 then f_Model_say_L11 wd ml mt (j + 1) (k + (-8)) mo 1 else f_Model_say_L11 wd ml mt (j + 1) (k + (-8)) (mo + 1) 1) else (if by_ wd k = 0 then f_Model_say_L11 wd ml mt (j + 1) (k + (-8)) mo 0 else f_Model_say_L11 wd ml mt (j + 1) (k + (-8)) (mo + 1) 0))) = _) ∧ (_ → (if by_ wd k = 0 then (if by_ wd k = 0 then f_Model_say_L11 wd ml mt (j + 1) (k + (-8)) mo 0 else f_Model_say_L11 wd ml mt (j + 1) (k + (-8)) (mo + 1) 0) else (if f_Model_in (by_ wd k).toInt64 32 126 = 0 then (if by_ wd k = 0 then f_Model_say_L11 wd ml mt (j + 1) (k + (-8)) mo 1 else f_Model_say_L11 wd ml mt (j + 1) (k + (-8)) (mo + 1) 1) else (if by_ wd k = 0 then f_Model_say_L11 wd ml mt (j + 1) (k + (-8)) mo 0 else f_Model_say_L11 wd ml mt (j + 1) (k + (-8)) (mo + 1) 0))) = _)
    have sp : ∀ q : ∀ s, s < j + 1 → GB wd s, ∀ s, s < j → GB wd s := fun q s hs => q s (by omega)
    have jn : GB wd j → (∀ s, s < j → GB wd s) → ∀ s, s < j + 1 → GB wd s := fun g h s hs => by
      rcases Nat.lt_or_eq_of_le (Nat.le_of_lt_succ hs) with q | q
      · exact h s q
      · rw [q]; exact g
    by_cases hz : by_ wd k = 0
    · have b0 : BN wd j = 0 := by rw [hz, oi_z] at bm; omega
      rw [if_pos hz, if_pos hz]
      rw [if_pos b0] at cs
      obtain ⟨i1, i2⟩ := ih (k + (-8)) mo (by omega) s2 h3 (by omega)
      refine ⟨fun q => ?_, fun q => i2 (fun e => q (jn (Or.inl b0) e))⟩
      obtain ⟨c, c1, c2⟩ := i1 (sp q)
      exact ⟨c, by rw [cs]; exact c1, c2⟩
    · have b0 : ¬ BN wd j = 0 := fun e => hz (i32_ext (by rw [bm, oi_z, e]; rfl))
      rw [if_neg hz, if_neg hz, if_neg hz]
      rw [if_neg b0] at cs
      have e1 : (mo + 1).toInt = mo.toInt + 1 := oi_addE rfl oi_1 (by omega) (by omega)
      have inz : f_Model_in (by_ wd k).toInt64 32 126 = 0 ↔ ¬ GB wd j := by
        rw [in_0, i64_32, bm, show (32 : Int64).toInt = 32 by decide, show (126 : Int64).toInt = 126 by decide]
        unfold GB
        omega
      by_cases hi : f_Model_in (by_ wd k).toInt64 32 126 = 0
      · rw [if_pos hi, sy_1 wd ml mt j _ _ (by omega) s2]
        exact ⟨fun q => absurd (q j (by omega)) (inz.mp hi), fun _ => rfl⟩
      · rw [if_neg hi]
        have g : GB wd j := Classical.not_not.mp (fun e => hi (inz.mpr e))
        obtain ⟨i1, i2⟩ := ih (k + (-8)) (mo + 1) (by omega) s2 (by omega) (by omega)
        refine ⟨fun q => ?_, fun q => i2 (fun e => q (jn g e))⟩
        obtain ⟨c, c1, c2⟩ := i1 (sp q)
        exact ⟨c, by rw [cs, c1, e1]; omega, c2⟩
theorem nar_b {c : Int32} (h0 : 0 ≤ c.toInt) (h1 : c.toInt ≤ 127) : vp_nar .byte c.toInt8.toInt32 = c := by
  rw [vp_nar_byte]
  apply i32_ext
  rw [Int8.toInt_toInt32, Int32.toInt_toInt8, Int8.toInt_toInt32, Int32.toInt_toInt8]
  have e : c.toInt.bmod (2 ^ 8) = c.toInt := Int.bmod_eq_of_le (by omega) (by omega)
  rw [e, e]
theorem lt_b {α β : Type} (x : α) (k : α → β) : lt_ x k = k x := rfl
theorem sy_2 (wd : Int64) (tl ml : Int32) (tf mt : Nat → Int32) : ∀ (j : Nat) (k xl : Int32) (xf yf : Nat → Int32), j ≤ 8 → k.toInt = 8 * (j : Int) - 8 → (∀ s, s < j → GB wd s) → xl.toInt + (bc wd j : Int) ≤ 800 → RT xl xf xl yf → ∃ zl zf wf, f_PR_say_L49 wd tl tf (j + 1) k xl xf = (0, zl, zl, zf) ∧ f_Model_say_L117 wd ml mt (j + 1) k 0 xl yf = (zl, 0, zl, wf) ∧ RT zl zf zl wf := by
  intro j
  induction j with
  | zero =>
    intro k xl xf yf h1 h2 h3 h4 h5
    rw [f_PR_say_L49_s, f_Model_say_L117_s, if_pos (by rw [oi_lt, oi_z]; omega), if_pos (by rw [oi_lt, oi_z]; omega), if_pos (by decide)]
    exact ⟨xl, xf, yf, rfl, rfl, h5⟩
  | succ j ih =>
    intro k xl xf yf h1 h2 h3 h4 h5
    obtain ⟨s1, s2⟩ := sh_n (j := j) (by omega) (by omega)
    have bm := by_m (wd := wd) (s := j) (by omega)
    have be := by_eq (wd := wd) (s := j) (by omega)
    rw [← s1] at bm be
    have cs := bcn wd j (by omega)
    rw [f_PR_say_L49_s, f_Model_say_L117_s, if_neg (by rw [oi_lt, oi_z]; omega), if_neg (by rw [oi_lt, oi_z]; omega), if_pos rfl, k_8 (j := j) (by omega) (by omega)]
    rw [lt_b, lt_b, be]
    have hby : ((wd >>> (k.toInt64 &&& 63)) &&& 255).toInt32 = by_ wd k := rfl
    rw [hby]
    clear hby
    by_cases hz : by_ wd k = 0
    · have b0 : BN wd j = 0 := by rw [hz, oi_z] at bm; omega
      rw [if_pos b0] at cs
      rw [if_pos hz, if_pos hz]
      exact ih _ _ _ _ (by omega) s2 (fun s hs => h3 s (by omega)) (by rw [cs] at h4; exact h4) h5
    · have b0 : ¬ BN wd j = 0 := fun e => hz (i32_ext (by rw [bm, oi_z, e]; rfl))
      rw [if_neg b0] at cs
      rw [if_neg hz, if_neg hz]
      obtain ⟨-, x0, x8, xa⟩ := h5
      rw [cs] at h4
      have g := h3 j (by omega)
      have gr : 32 ≤ BN wd j ∧ BN wd j ≤ 126 := by unfold GB at g; omega
      have x1 : (xl + 1).toInt = xl.toInt + 1 := oi_addE rfl oi_1 (by omega) (by omega)
      have ap : f_Text_append (by_ wd k) xl xf = (xl + 1, upd xf xl.toNatClampNeg (by_ wd k)) := by
        unfold f_Text_append
        rw [if_neg (by rw [oi_lt, oi_z]; omega), if_neg (by rw [oi_le, show (800 : Int32).toInt = 800 by decide]; omega), nar_b (by omega) (by omega)]
      rw [ap]
      dsimp only
      have rt : RT (xl + 1) (upd xf xl.toNatClampNeg (by_ wd k)) (xl + 1) (upd yf xl.toNatClampNeg (by_ wd k)) := by
        refine ⟨rfl, by omega, by omega, fun i hi => ?_⟩
        by_cases hi2 : i = xl.toNatClampNeg
        · rw [hi2, u32_s, u32_s]
          exact ⟨rfl, by omega, by omega⟩
        · have hx : xl.toNatClampNeg = xl.toInt.toNat := rfl
          rw [u32_n _ _ hi2, u32_n _ _ hi2]
          exact xa i (by omega)
      exact ih _ _ _ _ (by omega) s2 (fun s hs => h3 s (by omega)) (by omega) rt
theorem rt_l {tl ml : Int32} {tf mt : Nat → Int32} (h : RT tl tf ml mt) : RT tl tf tl mt := ⟨rfl, h.2⟩
theorem sy_eq {tl ml : Int32} {tf mt : Nat → Int32} (wd : Int64) (h : RT tl tf ml mt) : ∃ x y, x = f_PR_say wd tl tf ∧ y = f_Model_say wd ml mt ∧ x.1 = y.2.1 ∧ (x.1 = 0 ∨ x.1 = 1 ∨ x.1 = 2) ∧ (x.1 = 0 → x.2.1 = y.1) ∧ RT x.2.2.1 x.2.2.2 y.2.2.1 y.2.2.2 := by
  refine ⟨_, _, rfl, rfl, ?_⟩
  obtain ⟨e, t0, t8, ta⟩ := h
  subst e
  have c := ch_l wd 8 56 0 (by decide) (by decide) (by decide) (by decide)
  have m := sy_0 wd tl mt 8 56 0 (by decide) (by decide) (by decide) (by decide)
  unfold f_PR_say f_Model_say f_PR_charactersIn
  simp only [lt_]
  have bl := bc_le wd 8
  rcases c with ⟨c1, c2⟩ | ⟨c1, c2⟩
  · rw [if_pos c1, m.2 c2]
    exact ⟨rfl, Or.inr (Or.inl rfl), fun q => absurd (show (1 : Int32) = 0 from q) (by decide), rfl, t0, t8, ta⟩
  · obtain ⟨d, d1, d2⟩ := m.1 c2
    have e : f_PR_charactersIn_L5 wd 9 56 0 = d := i32_ext (c1.trans d1.symm)
    rw [e, d2]
    have dn : ¬ d = -1 := fun q => by rw [q, show (-1 : Int32).toInt = -1 by decide, oi_z] at d1; omega
    rw [if_neg dn]
    have dl : (tl + d).toInt = tl.toInt + d.toInt := oi_addE rfl rfl (by rw [d1, oi_z]; omega) (by rw [d1, oi_z]; omega)
    by_cases hl : tl + d ≤ 800
    · rw [if_pos hl, if_pos hl]
      rw [oi_le, dl, d1, oi_z, show (800 : Int32).toInt = 800 by decide] at hl
      obtain ⟨zl, zf, wf, q1, q2, q3⟩ := sy_2 wd tl tl tf mt 8 56 tl tf mt (by decide) (by decide) c2 (by omega) ⟨rfl, t0, t8, ta⟩
      rw [q1, q2]
      exact ⟨rfl, Or.inl rfl, fun _ => rfl, q3⟩
    · rw [if_neg hl, if_neg hl]
      exact ⟨rfl, Or.inr (Or.inr rfl), fun q => absurd (show (2 : Int32) = 0 from q) (by decide), rfl, t0, t8, ta⟩
