/-! words: both scanners -/
theorem tx_1 {tl p : Int32} {tf mt : Nat → Int32} (h : RT tl tf tl mt) (h0 : 0 ≤ p.toInt) (h1 : p.toInt < tl.toInt) : f_Text_at p tl tf = mt p.toInt.toNat ∧ f_Model_character p tl mt = mt p.toInt.toNat ∧ 32 ≤ (mt p.toInt.toNat).toInt ∧ (mt p.toInt.toNat).toInt ≤ 126 := by
  obtain ⟨-, -, t8, ta⟩ := h
  have a := ta p.toInt.toNat (by omega)
  unfold f_Text_at f_Model_character
  rw [if_neg (by rw [oi_lt, oi_z]; omega), if_neg (by rw [oi_le]; omega), if_neg (by rw [oi_le, show (800 : Int32).toInt = 800 by decide]; omega), if_neg (by rw [oi_le]; omega)]
  exact ⟨a.1, rfl, a.2.1, a.2.2⟩
theorem tx_0 {tl p : Int32} {tf mt : Nat → Int32} (h0 : 0 ≤ p.toInt) (h1 : tl.toInt ≤ p.toInt) : f_Text_at p tl tf = 0 ∧ f_Model_character p tl mt = -1 := by
  unfold f_Text_at f_Model_character
  rw [if_neg (by rw [oi_lt, oi_z]; omega), if_pos (by rw [oi_le]; omega), if_pos (by rw [oi_le]; omega)]
  exact ⟨rfl, rfl⟩
theorem id_z {c : Int32} : f_PR_isDigit c = 0 ↔ f_Model_in c.toInt64 48 57 = 0 := by
  rw [in_0, i64_32, show (48 : Int64).toInt = 48 by decide, show (57 : Int64).toInt = 57 by decide]
  unfold f_PR_isDigit
  by_cases h1 : c < 48
  · rw [if_pos h1]
    rw [oi_lt, show (48 : Int32).toInt = 48 by decide] at h1
    exact ⟨fun _ => Or.inl h1, fun _ => rfl⟩
  · rw [if_neg h1]
    rw [oi_lt, show (48 : Int32).toInt = 48 by decide] at h1
    by_cases h2 : 57 < c
    · rw [if_pos h2]
      rw [oi_lt, show (57 : Int32).toInt = 57 by decide] at h2
      exact ⟨fun _ => Or.inr h2, fun _ => rfl⟩
    · rw [if_neg h2]
      rw [oi_lt, show (57 : Int32).toInt = 57 by decide] at h2
      exact ⟨fun e => absurd e (by decide), fun e => by omega⟩
theorem ie_z {c : Int32} : f_PR_isLetter c = 0 ↔ f_Model_in c.toInt64 97 122 = 0 := by
  rw [in_0, i64_32, show (97 : Int64).toInt = 97 by decide, show (122 : Int64).toInt = 122 by decide]
  unfold f_PR_isLetter
  by_cases h1 : c < 97
  · rw [if_pos h1]
    rw [oi_lt, show (97 : Int32).toInt = 97 by decide] at h1
    exact ⟨fun _ => Or.inl h1, fun _ => rfl⟩
  · rw [if_neg h1]
    rw [oi_lt, show (97 : Int32).toInt = 97 by decide] at h1
    by_cases h2 : 122 < c
    · rw [if_pos h2]
      rw [oi_lt, show (122 : Int32).toInt = 122 by decide] at h2
      exact ⟨fun _ => Or.inr h2, fun _ => rfl⟩
    · rw [if_neg h2]
      rw [oi_lt, show (122 : Int32).toInt = 122 by decide] at h2
      exact ⟨fun e => absurd e (by decide), fun e => by omega⟩
theorem id_r {c : Int32} (h : ¬ f_PR_isDigit c = 0) : 48 ≤ c.toInt ∧ c.toInt ≤ 57 := by
  rw [id_z, in_0, i64_32, show (48 : Int64).toInt = 48 by decide, show (57 : Int64).toInt = 57 by decide] at h
  omega
theorem ie_r {c : Int32} (h : ¬ f_PR_isLetter c = 0) : 97 ≤ c.toInt ∧ c.toInt ≤ 122 := by
  rw [ie_z, in_0, i64_32, show (97 : Int64).toInt = 97 by decide, show (122 : Int64).toInt = 122 by decide] at h
  omega
/-- is a digit, is a letter: at a place of the text -/
theorem tx_d {tl p : Int32} {tf mt : Nat → Int32} (h : RT tl tf tl mt) (h0 : 0 ≤ p.toInt) : f_Model_isDigit p tl mt = 0 ↔ f_PR_isDigit (f_Text_at p tl tf) = 0 := by
  unfold f_Model_isDigit
  simp only [lt_]
  by_cases hp : p.toInt < tl.toInt
  · obtain ⟨a, b, -, -⟩ := tx_1 h h0 hp
    rw [a, b, id_z]
  · obtain ⟨a, b⟩ := tx_0 (tf := tf) (mt := mt) h0 (by omega : tl.toInt ≤ p.toInt)
    rw [a, b]
    exact ⟨fun _ => by decide, fun _ => by decide⟩
theorem tx_e {tl p : Int32} {tf mt : Nat → Int32} (h : RT tl tf tl mt) (h0 : 0 ≤ p.toInt) : f_Model_isLetter p tl mt = 0 ↔ f_PR_isLetter (f_Text_at p tl tf) = 0 := by
  unfold f_Model_isLetter
  simp only [lt_]
  by_cases hp : p.toInt < tl.toInt
  · obtain ⟨a, b, -, -⟩ := tx_1 h h0 hp
    rw [a, b, ie_z]
  · obtain ⟨a, b⟩ := tx_0 (tf := tf) (mt := mt) h0 (by omega : tl.toInt ≤ p.toInt)
    rw [a, b]
    exact ⟨fun _ => by decide, fun _ => by decide⟩
theorem c800 : (800 : Int32).toInt = 800 := by decide
theorem bb_l {tl : Int32} {tf mt : Nat → Int32} (h : RT tl tf tl mt) (fr ma : Int32) (mv : Int64) (mw : Int32) : ∀ (n : Nat) (xa : Int32), 0 ≤ xa.toInt → xa.toInt ≤ tl.toInt → (800 - xa.toInt).toNat < n → ∃ k, f_Model_next_L0 tl ma mv mw mt n xa = f_Model_next_L0 tl ma mv mw mt (k + 1) (f_Words_behindBlanks_L2 fr tl tf n xa) ∧ 0 ≤ (f_Words_behindBlanks_L2 fr tl tf n xa).toInt ∧ (f_Words_behindBlanks_L2 fr tl tf n xa).toInt ≤ tl.toInt ∧ ((f_Words_behindBlanks_L2 fr tl tf n xa).toInt < tl.toInt → ¬ mt (f_Words_behindBlanks_L2 fr tl tf n xa).toInt.toNat = 32) := by
  have t8 := h.2.2.1
  intro n
  induction n with
  | zero => intro xa _ _ hn; omega
  | succ n ih =>
    intro xa h0 h1 hn
    rw [f_Words_behindBlanks_L2_s]
    simp only [lt_]
    by_cases hp : xa.toInt < tl.toInt
    · obtain ⟨a, b, -, -⟩ := tx_1 h h0 hp
      rw [if_neg (by rw [oi_le, c800]; omega), a]
      by_cases c : mt xa.toInt.toNat = 32
      · rw [if_pos c]
        have e : (xa + 1).toInt = xa.toInt + 1 := oi_addE rfl oi_1 (by omega) (by omega)
        obtain ⟨k, k1, k2⟩ := ih (xa + 1) (by omega) (by omega) (by omega)
        refine ⟨k, ?_, k2⟩
        rw [← k1, f_Model_next_L0_s]
        simp only [lt_]
        rw [b, if_pos c]
      · rw [if_neg c]
        exact ⟨n, rfl, h0, h1, fun _ => c⟩
    · obtain ⟨a, b⟩ := tx_0 (tf := tf) (mt := mt) h0 (by omega : tl.toInt ≤ xa.toInt)
      rw [a, if_neg (show ¬ (0 : Int32) = 32 by decide)]
      have e : (if 800 ≤ xa then xa else xa) = xa := by split <;> rfl
      rw [e]
      exact ⟨n, rfl, h0, h1, fun q => absurd q hp⟩
theorem wo_d {x : Int64} {c : Int32} (h0 : 48 ≤ c.toInt) (h1 : c.toInt ≤ 57) : 10 * x + c.toInt64 - 48 = x * 10 + (c - 48).toInt64 := by
  have e : (c - 48).toInt64 = c.toInt64 - 48 := by
    apply i64_ext
    have s : (c - 48).toInt = c.toInt - 48 := oi_subE rfl (by decide) (by omega) (by omega)
    rw [i64_32, s, Int64.toInt_sub, i64_32, show (48 : Int64).toInt = 48 by decide]
    exact (Jvm.Kit.bmod64 (by omega) (by omega)).symm
  rw [e, Int64.mul_comm, Int64.sub_eq_add_neg, Int64.sub_eq_add_neg, Int64.add_assoc]
theorem dg_l {tl : Int32} {tf mt : Nat → Int32} (h : RT tl tf tl mt) (fr fr2 kd ma : Int32) (mv : Int64) (mw : Int32) : ∀ (n m : Nat) (xa n_ : Int32) (xv : Int64) (xp xw : Int32), 0 ≤ xa.toInt → xa.toInt ≤ tl.toInt → (800 - xa.toInt).toNat < n → (800 - xa.toInt).toNat < m → 0 ≤ n_.toInt → n_.toInt ≤ xa.toInt →
    xa.toInt ≤ (f_Words_behindWord_L17 fr tl tf m xa).toInt ∧ (f_Words_behindWord_L17 fr tl tf m xa).toInt ≤ tl.toInt ∧ ∃ V, f_Model_next_L81 tl ma mv mw mt n n_ xa xv xp xw = (f_Words_behindWord_L17 fr tl tf m xa, (if xw ≤ 120 then (if n_.toInt + ((f_Words_behindWord_L17 fr tl tf m xa).toInt - xa.toInt) ≤ 9 then 1 else 3) else 3), xp, V, xw) ∧ (n_.toInt + ((f_Words_behindWord_L17 fr tl tf m xa).toInt - xa.toInt) ≤ 9 → V = f_Words_worthOf_L11 fr2 (f_Words_behindWord_L17 fr tl tf m xa) kd tl tf (((f_Words_behindWord_L17 fr tl tf m xa).toInt - xa.toInt).toNat + 1) xa xv) := by
  have t8 := h.2.2.1
  intro n
  induction n with
  | zero => intro m xa n_ xv xp xw _ _ hn; omega
  | succ n ih =>
    intro m xa n_ xv xp xw h0 h1 hn hm n0 n1
    obtain ⟨m, rfl⟩ : ∃ m', m = m' + 1 := ⟨m - 1, by omega⟩
    generalize hE : f_Words_behindWord_L17 fr tl tf (m + 1) xa = E
    rw [f_Words_behindWord_L17_s] at hE
    simp only [lt_] at hE
    rw [f_Model_next_L81_s]
    simp only [lt_]
    by_cases hd : f_PR_isDigit (f_Text_at xa tl tf) = 0
    · have e : (if 800 ≤ xa then xa else (if f_PR_isDigit (f_Text_at xa tl tf) = 0 then xa else f_Words_behindWord_L17 fr tl tf m (xa + 1))) = xa := by
        rw [if_pos hd]
        split <;> rfl
      rw [e] at hE
      subst hE
      rw [if_pos ((tx_d h h0).mpr hd)]
      refine ⟨by omega, h1, xv, ?_, fun _ => ?_⟩
      · have q9 : n_ ≤ 9 ↔ n_.toInt + (xa.toInt - xa.toInt) ≤ 9 := by rw [oi_le, show (9 : Int32).toInt = 9 by decide]; omega
        by_cases c9 : n_ ≤ 9
        · rw [if_pos c9, if_pos (q9.mp c9)]
          split <;> rfl
        · rw [if_neg c9, if_neg (fun q => c9 (q9.mpr q))]
          split <;> rfl
      · rw [show (xa.toInt - xa.toInt).toNat + 1 = 0 + 1 by omega, f_Words_worthOf_L11_s, if_pos (by rw [oi_le]; omega)]
    · have hp : xa.toInt < tl.toInt := by
        rcases Int.lt_or_le xa.toInt tl.toInt with q | q
        · exact q
        · rw [(tx_0 (tf := tf) (mt := mt) h0 q).1] at hd
          exact absurd (by decide) hd
      obtain ⟨a, b, -, -⟩ := tx_1 h h0 hp
      have e1 : (xa + 1).toInt = xa.toInt + 1 := oi_addE rfl oi_1 (by omega) (by omega)
      have e2 : (n_ + 1).toInt = n_.toInt + 1 := oi_addE rfl oi_1 (by omega) (by omega)
      rw [if_neg (by rw [oi_le, c800]; omega), if_neg hd] at hE
      subst hE
      rw [if_neg (fun q => hd ((tx_d h h0).mp q))]
      obtain ⟨g1, g2⟩ := id_r hd
      rw [a] at g1 g2
      by_cases c9 : 9 ≤ n_
      · rw [if_pos c9]
        rw [oi_le, show (9 : Int32).toInt = 9 by decide] at c9
        obtain ⟨i1, i2, V, i3, i4⟩ := ih m (xa + 1) (n_ + 1) xv xp xw (by omega) (by omega) (by omega) (by omega) (by omega) (by omega)
        refine ⟨by omega, i2, V, ?_, fun q => by omega⟩
        rw [i3, show n_.toInt + ((f_Words_behindWord_L17 fr tl tf m (xa + 1)).toInt - xa.toInt) = (n_ + 1).toInt + ((f_Words_behindWord_L17 fr tl tf m (xa + 1)).toInt - (xa + 1).toInt) by omega]
      · rw [if_neg c9, b]
        rw [oi_le, show (9 : Int32).toInt = 9 by decide] at c9
        obtain ⟨i1, i2, V, i3, i4⟩ := ih m (xa + 1) (n_ + 1) (10 * xv + (mt xa.toInt.toNat).toInt64 - 48) xp xw (by omega) (by omega) (by omega) (by omega) (by omega) (by omega)
        refine ⟨by omega, i2, V, ?_, fun q => ?_⟩
        · rw [i3, show n_.toInt + ((f_Words_behindWord_L17 fr tl tf m (xa + 1)).toInt - xa.toInt) = (n_ + 1).toInt + ((f_Words_behindWord_L17 fr tl tf m (xa + 1)).toInt - (xa + 1).toInt) by omega]
        · rw [i4 (by omega), show ((f_Words_behindWord_L17 fr tl tf m (xa + 1)).toInt - xa.toInt).toNat + 1 = (((f_Words_behindWord_L17 fr tl tf m (xa + 1)).toInt - (xa + 1).toInt).toNat + 1) + 1 by omega, f_Words_worthOf_L11_s fr2 _ kd tl tf (((f_Words_behindWord_L17 fr tl tf m (xa + 1)).toInt - (xa + 1).toInt).toNat + 1) xa, if_neg (by rw [oi_le]; omega)]
          simp only [lt_]
          rw [a, wo_d g1 g2]
theorem wo_e {x : Int64} {c : Int32} (h0 : 0 ≤ c.toInt) (h1 : c.toInt ≤ 255) : x * 256 + c.toInt64 = (x <<< ((8 : Int32).toInt64 &&& 63)) ||| c.toInt64 := by
  apply Int64.toBitVec_inj.mp
  have e1 : ((x <<< ((8 : Int32).toInt64 &&& 63)) ||| c.toInt64).toBitVec = (x.toBitVec <<< (((8 : Int32).toInt64 &&& 63).toBitVec.smod 64#64).toNat) ||| c.toInt64.toBitVec := rfl
  have e2 : (x * 256 + c.toInt64).toBitVec = x.toBitVec * 256#64 + c.toInt64.toBitVec := rfl
  rw [e1, e2, show (((8 : Int32).toInt64 &&& 63).toBitVec.smod 64#64).toNat = 8 by decide, BitVec.shiftLeft_eq_mul_twoPow, show BitVec.twoPow 64 8 = 256#64 by decide]
  apply BitVec.add_eq_or_of_and_eq_zero
  rw [show (256#64 : BitVec 64) = BitVec.twoPow 64 8 by decide, ← BitVec.shiftLeft_eq_mul_twoPow]
  have cn : c.toInt64.toBitVec.toNat < 256 := by
    have q : c.toInt64.toInt = c.toInt := i64_32 c
    have q2 : c.toInt64.toBitVec.toInt = c.toInt := q
    rw [BitVec.toInt_eq_toNat_cond] at q2
    have l := c.toInt64.toBitVec.isLt
    split at q2 <;> omega
  apply BitVec.eq_of_getLsbD_eq
  intro i hi
  rw [BitVec.getLsbD_and, BitVec.getLsbD_shiftLeft, BitVec.getLsbD_zero]
  by_cases h8 : i < 8
  · rw [decide_eq_true h8]
    simp
  · have f : c.toInt64.toBitVec.getLsbD i = false := by
      show Nat.testBit c.toInt64.toBitVec.toNat i = false
      apply Nat.testBit_lt_two_pow
      exact Nat.lt_of_lt_of_le cn (Nat.pow_le_pow_right (show 0 < 2 by decide) (by omega : 8 ≤ i))
    rw [f, Bool.and_false]
theorem le_l {tl : Int32} {tf mt : Nat → Int32} (h : RT tl tf tl mt) (fr fr2 kd ma : Int32) (mv : Int64) (mw : Int32) : ∀ (n m : Nat) (xa n_ : Int32) (xv : Int64) (xp xw : Int32), 0 ≤ xa.toInt → xa.toInt ≤ tl.toInt → (800 - xa.toInt).toNat < n → (800 - xa.toInt).toNat < m → 0 ≤ n_.toInt → n_.toInt ≤ xa.toInt →
    xa.toInt ≤ (f_Words_behindWord_L48 fr tl tf m xa).toInt ∧ (f_Words_behindWord_L48 fr tl tf m xa).toInt ≤ tl.toInt ∧ ∃ V, f_Model_next_L176 tl ma mv mw mt n n_ xa xv xp xw = (f_Words_behindWord_L48 fr tl tf m xa, (if xw ≤ 120 then (if n_.toInt + ((f_Words_behindWord_L48 fr tl tf m xa).toInt - xa.toInt) ≤ 8 then 2 else 3) else 3), xp, V, xw) ∧ (n_.toInt + ((f_Words_behindWord_L48 fr tl tf m xa).toInt - xa.toInt) ≤ 8 → V = f_Words_worthOf_L53 fr2 (f_Words_behindWord_L48 fr tl tf m xa) kd tl tf (((f_Words_behindWord_L48 fr tl tf m xa).toInt - xa.toInt).toNat + 1) xa xv) := by
  have t8 := h.2.2.1
  intro n
  induction n with
  | zero => intro m xa n_ xv xp xw _ _ hn; omega
  | succ n ih =>
    intro m xa n_ xv xp xw h0 h1 hn hm n0 n1
    obtain ⟨m, rfl⟩ : ∃ m', m = m' + 1 := ⟨m - 1, by omega⟩
    generalize hE : f_Words_behindWord_L48 fr tl tf (m + 1) xa = E
    rw [f_Words_behindWord_L48_s] at hE
    simp only [lt_] at hE
    rw [f_Model_next_L176_s]
    simp only [lt_]
    by_cases hd : f_PR_isLetter (f_Text_at xa tl tf) = 0
    · have e : (if 800 ≤ xa then xa else (if f_PR_isLetter (f_Text_at xa tl tf) = 0 then xa else f_Words_behindWord_L48 fr tl tf m (xa + 1))) = xa := by
        rw [if_pos hd]
        split <;> rfl
      rw [e] at hE
      subst hE
      rw [if_pos ((tx_e h h0).mpr hd)]
      refine ⟨by omega, h1, xv, ?_, fun _ => ?_⟩
      · have q9 : n_ ≤ 8 ↔ n_.toInt + (xa.toInt - xa.toInt) ≤ 8 := by rw [oi_le, oi_8]; omega
        by_cases c9 : n_ ≤ 8
        · rw [if_pos c9, if_pos (q9.mp c9)]
          split <;> rfl
        · rw [if_neg c9, if_neg (fun q => c9 (q9.mpr q))]
          split <;> rfl
      · rw [show (xa.toInt - xa.toInt).toNat + 1 = 0 + 1 by omega, f_Words_worthOf_L53_s, if_pos (by rw [oi_le]; omega)]
    · have hp : xa.toInt < tl.toInt := by
        rcases Int.lt_or_le xa.toInt tl.toInt with q | q
        · exact q
        · rw [(tx_0 (tf := tf) (mt := mt) h0 q).1] at hd
          exact absurd (by decide) hd
      obtain ⟨a, b, -, -⟩ := tx_1 h h0 hp
      have e1 : (xa + 1).toInt = xa.toInt + 1 := oi_addE rfl oi_1 (by omega) (by omega)
      have e2 : (n_ + 1).toInt = n_.toInt + 1 := oi_addE rfl oi_1 (by omega) (by omega)
      rw [if_neg (by rw [oi_le, c800]; omega), if_neg hd] at hE
      subst hE
      rw [if_neg (fun q => hd ((tx_e h h0).mp q))]
      obtain ⟨g1, g2⟩ := ie_r hd
      rw [a] at g1 g2
      by_cases c9 : 8 ≤ n_
      · rw [if_pos c9]
        rw [oi_le, oi_8] at c9
        obtain ⟨i1, i2, V, i3, i4⟩ := ih m (xa + 1) (n_ + 1) xv xp xw (by omega) (by omega) (by omega) (by omega) (by omega) (by omega)
        refine ⟨by omega, i2, V, ?_, fun q => by omega⟩
        rw [i3, show n_.toInt + ((f_Words_behindWord_L48 fr tl tf m (xa + 1)).toInt - xa.toInt) = (n_ + 1).toInt + ((f_Words_behindWord_L48 fr tl tf m (xa + 1)).toInt - (xa + 1).toInt) by omega]
      · rw [if_neg c9, b]
        rw [oi_le, oi_8] at c9
        obtain ⟨i1, i2, V, i3, i4⟩ := ih m (xa + 1) (n_ + 1) (xv * 256 + (mt xa.toInt.toNat).toInt64) xp xw (by omega) (by omega) (by omega) (by omega) (by omega) (by omega)
        refine ⟨by omega, i2, V, ?_, fun q => ?_⟩
        · rw [i3, show n_.toInt + ((f_Words_behindWord_L48 fr tl tf m (xa + 1)).toInt - xa.toInt) = (n_ + 1).toInt + ((f_Words_behindWord_L48 fr tl tf m (xa + 1)).toInt - (xa + 1).toInt) by omega]
        · rw [i4 (by omega), show ((f_Words_behindWord_L48 fr tl tf m (xa + 1)).toInt - xa.toInt).toNat + 1 = (((f_Words_behindWord_L48 fr tl tf m (xa + 1)).toInt - (xa + 1).toInt).toNat + 1) + 1 by omega, f_Words_worthOf_L53_s fr2 _ kd tl tf (((f_Words_behindWord_L48 fr tl tf m (xa + 1)).toInt - (xa + 1).toInt).toNat + 1) xa, if_neg (by rw [oi_le]; omega)]
          simp only [lt_]
          rw [a, wo_e (by omega) (by omega)]
/-- kinds of words, of both -/
def KL : List (Int32 × Int32) := [(0, 0), (2, 1), (3, 2), (4, 316), (5, 318), (33, 33), (40, 40), (41, 41), (42, 42), (43, 43), (45, 45), (47, 47), (58, 58), (59, 59), (60, 60), (61, 61), (62, 62), (64, 64)]
def KR (a b : Int32) : Prop := (a, b) ∈ KL ∨ (b = 3 ∧ ∀ q ∈ KL, ¬ a = q.1)
theorem kl_i : ∀ q ∈ KL, ∀ q' ∈ KL, q.1 = q'.1 ↔ q.2 = q'.2 := by decide
theorem kl_3 : ∀ q ∈ KL, ¬ q.2 = 3 := by decide
theorem kr_i {a b c d : Int32} (h : KR a b) (hc : (c, d) ∈ KL) : a = c ↔ b = d := by
  rcases h with h | ⟨h, g⟩
  · exact kl_i _ h _ hc
  · constructor
    · intro e; exact absurd e (g _ hc)
    · intro e; exact absurd (e.symm.trans h) (kl_3 _ hc)
theorem kr_w {a : Int32} (h : ∀ q ∈ KL, ¬ a = q.1) : KR a 3 := Or.inr ⟨rfl, h⟩
theorem kr_c {c : Int32} (h : 33 ≤ c.toInt) : KR c (if f_Model_isSign c = 0 then 3 else c) := by
  by_cases hs : f_Model_isSign c = 0
  · rw [if_pos hs]
    refine kr_w (fun q hq e => ?_)
    unfold f_Model_isSign at hs
    have sm : ∀ q ∈ KL, q.1.toInt < 33 ∨ f_Model_isSign q.1 = 1 := by decide
    rcases sm q hq with g | g
    · rw [← e] at g; omega
    · rw [← e] at g
      unfold f_Model_isSign at g
      rw [hs] at g
      exact absurd g (by decide)
  · rw [if_neg hs]
    left
    unfold f_Model_isSign at hs
    repeat' split at hs
    all_goals first | (rename_i q; rw [q]; decide) | exact absurd rfl hs
set_option maxHeartbeats 1000000 in
/-- the next word -/
theorem nx_e {tl : Int32} {tf mt : Nat → Int32} (h : RT tl tf tl mt) (P : Int32) (v : Int64) (w : Int32) (h0 : 0 ≤ P.toInt) (h1 : P.toInt ≤ tl.toInt) {p b k : Int32} (hp : p = f_Words_behindBlanks P tl tf) (hb : b = f_Words_behindWord p tl tf) (hk : k = f_Words_kindOf p b tl tf) :
    (k = 0 ∧ f_Model_next tl P v w mt = (p, 0, p, v, w)) ∨ (¬ k = 0 ∧ 0 ≤ b.toInt ∧ b.toInt ≤ tl.toInt ∧ ∃ K v', f_Model_next tl P v w mt = (b, (if w + 1 ≤ 120 then K else 3), p, v', w + 1) ∧ KR k K ∧ (k = 2 ∨ k = 3 → v' = f_Words_worthOf p b k tl tf)) := by
  have t8 := h.2.2.1
  obtain ⟨n, e1, p0, p1, p2⟩ := bb_l h P P v w 801 P h0 h1 (by omega)
  have hp' : p = f_Words_behindBlanks_L2 P tl tf 801 P := hp
  rw [← hp'] at e1 p0 p1 p2
  have e0 : f_Model_next tl P v w mt = f_Model_next_L0 tl P v w mt (n + 1) p := e1
  rw [e0, f_Model_next_L0_s]
  simp only [lt_]
  by_cases hl : p.toInt < tl.toInt
  · obtain ⟨a, c, r1, r2⟩ := tx_1 h p0 hl
    have n32 := p2 hl
    have q1 : (p + 1).toInt = p.toInt + 1 := oi_addE rfl oi_1 (by omega) (by omega)
    rw [c, if_neg n32, if_pos (show (0 : Int32) ≤ mt p.toInt.toNat by rw [oi_le, oi_z]; omega)]
    have nz : ¬ mt p.toInt.toNat = 0 := fun e => by rw [e, oi_z] at r1; omega
    have r3 : 33 ≤ (mt p.toInt.toNat).toInt := by
      have : (mt p.toInt.toNat).toInt ≠ 32 := fun e => n32 (i32_ext (by rw [e]; decide))
      omega
    right
    by_cases hd : f_PR_isDigit (f_Text_at p tl tf) = 0
    · rw [if_pos ((tx_d h p0).mpr hd)]
      by_cases he : f_PR_isLetter (f_Text_at p tl tf) = 0
      · rw [if_pos ((tx_e h p0).mpr he)]
        have hb2 : b = (if mt p.toInt.toNat = 60 then (if f_Text_at (p + 1) tl tf = 61 then p + 1 + 1 else p + 1) else (if mt p.toInt.toNat = 62 then (if f_Text_at (p + 1) tl tf = 61 then p + 1 + 1 else p + 1) else p + 1)) := by
          rw [hb]
          unfold f_Words_behindWord
          simp only [lt_]
          rw [if_pos hd, if_pos he, a]
        have hk2 : k = (if b - p = 2 then (if mt p.toInt.toNat = 60 then 4 else 5) else mt p.toInt.toNat) := by
          rw [hk]
          unfold f_Words_kindOf
          simp only [lt_]
          rw [a] at hd he ⊢
          rw [if_neg nz, if_pos hd, if_pos he]
        have w1 : ∀ K : Int32, (if w + 1 ≤ 120 then ((p + 1 : Int32), K, p, (0 : Int64), w + 1) else (p + 1, 3, p, 0, w + 1)) = (p + 1, (if w + 1 ≤ 120 then K else 3), p, 0, w + 1) := fun K => by split <;> rfl
        have w2 : ∀ K : Int32, (if w + 1 ≤ 120 then ((p + 1 + 1 : Int32), K, p, (0 : Int64), w + 1) else (p + 1 + 1, 3, p, 0, w + 1)) = (p + 1 + 1, (if w + 1 ≤ 120 then K else 3), p, 0, w + 1) := fun K => by split <;> rfl
        simp only [w1, w2]
        have kc := kr_c r3
        have s1 : (p + 1 - p).toInt = 1 := by rw [oi_subE q1 rfl (by omega) (by omega)]; omega
        have n2 : ¬ p + 1 - p = 2 := fun e => by rw [e, show (2 : Int32).toInt = 2 by decide] at s1; omega
        have one : b = p + 1 → ¬ k = 0 ∧ 0 ≤ b.toInt ∧ b.toInt ≤ tl.toInt ∧ ∃ K v', ((p + 1 : Int32), (if w + 1 ≤ 120 then (if f_Model_isSign (mt p.toInt.toNat) = 0 then 3 else mt p.toInt.toNat) else 3), p, (0 : Int64), w + 1) = (b, (if w + 1 ≤ 120 then K else 3), p, v', w + 1) ∧ KR k K ∧ (k = 2 ∨ k = 3 → v' = f_Words_worthOf p b k tl tf) := by
          intro e
          rw [e, if_neg n2] at hk2
          refine ⟨by rw [hk2]; exact nz, by rw [e]; omega, by rw [e]; omega, (if f_Model_isSign (mt p.toInt.toNat) = 0 then 3 else mt p.toInt.toNat), 0, by rw [e], by rw [hk2]; exact kc, fun q => ?_⟩
          rw [hk2] at q
          rcases q with q | q <;> rw [q] at r3 <;> exact absurd r3 (by decide)
        have two : b = p + 1 + 1 → f_Text_at (p + 1) tl tf = 61 → (mt p.toInt.toNat = 60 ∨ mt p.toInt.toNat = 62) → ¬ k = 0 ∧ 0 ≤ b.toInt ∧ b.toInt ≤ tl.toInt ∧ ∃ K v', ((p + 1 + 1 : Int32), (if w + 1 ≤ 120 then (mt p.toInt.toNat + 256) else 3), p, (0 : Int64), w + 1) = (b, (if w + 1 ≤ 120 then K else 3), p, v', w + 1) ∧ KR k K ∧ (k = 2 ∨ k = 3 → v' = f_Words_worthOf p b k tl tf) := by
          intro e e61 e6
          have l1 : (p + 1).toInt < tl.toInt := by
            rcases Int.lt_or_le (p + 1).toInt tl.toInt with q | q
            · exact q
            · rw [(tx_0 (tf := tf) (mt := mt) (by omega) q).1] at e61
              exact absurd e61 (by decide)
          have q2 : (p + 1 + 1).toInt = p.toInt + 1 + 1 := oi_addE q1 oi_1 (by omega) (by omega)
          have s2 : p + 1 + 1 - p = 2 := i32_ext (by rw [oi_subE q2 rfl (by omega) (by omega), show (2 : Int32).toInt = 2 by decide]; omega)
          rw [e, if_pos s2] at hk2
          rcases e6 with e6 | e6
          · rw [if_pos e6] at hk2
            refine ⟨by rw [hk2]; decide, by rw [e]; omega, by rw [e]; omega, 316, 0, by rw [e, e6]; rfl, by rw [hk2]; left; decide, fun q => ?_⟩
            rw [hk2] at q
            rcases q with q | q <;> exact absurd q (by decide)
          · rw [if_neg (by rw [e6]; decide)] at hk2
            refine ⟨by rw [hk2]; decide, by rw [e]; omega, by rw [e]; omega, 318, 0, by rw [e, e6]; rfl, by rw [hk2]; left; decide, fun q => ?_⟩
            rw [hk2] at q
            rcases q with q | q <;> exact absurd q (by decide)
        have ch1 : f_Model_character (p + 1) tl mt = 61 ↔ f_Text_at (p + 1) tl tf = 61 := by
          by_cases l1 : (p + 1).toInt < tl.toInt
          · obtain ⟨x1, x2, -, -⟩ := tx_1 h (by omega : 0 ≤ (p + 1).toInt) l1
            rw [x1, x2]
          · obtain ⟨x1, x2⟩ := tx_0 (tf := tf) (mt := mt) (by omega : 0 ≤ (p + 1).toInt) (by omega : tl.toInt ≤ (p + 1).toInt)
            rw [x1, x2]
            exact ⟨fun e => absurd e (by decide), fun e => absurd e (by decide)⟩
        by_cases e60 : mt p.toInt.toNat = 60
        · rw [if_pos e60] at hb2
          have sg : ¬ f_Model_isSign (mt p.toInt.toNat) = 0 := by rw [e60]; decide
          rw [if_neg sg, if_pos e60]
          rw [if_neg sg] at one
          by_cases e61 : f_Text_at (p + 1) tl tf = 61
          · rw [if_pos (ch1.mpr e61)]
            exact two (by rw [hb2, if_pos e61]) e61 (Or.inl e60)
          · rw [if_neg (fun q => e61 (ch1.mp q))]
            exact one (by rw [hb2, if_neg e61])
        · rw [if_neg e60] at hb2
          by_cases e62 : mt p.toInt.toNat = 62
          · rw [if_pos e62] at hb2
            have sg : ¬ f_Model_isSign (mt p.toInt.toNat) = 0 := by rw [e62]; decide
            rw [if_neg sg, if_neg e60, if_pos e62]
            rw [if_neg sg] at one
            by_cases e61 : f_Text_at (p + 1) tl tf = 61
            · rw [if_pos (ch1.mpr e61)]
              exact two (by rw [hb2, if_pos e61]) e61 (Or.inr e62)
            · rw [if_neg (fun q => e61 (ch1.mp q))]
              exact one (by rw [hb2, if_neg e61])
          · rw [if_neg e62] at hb2
            rw [if_neg e60, if_neg e62, if_neg e60, if_neg e62]
            have o := one hb2
            by_cases sg : f_Model_isSign (mt p.toInt.toNat) = 0
            · rw [if_pos sg] at o ⊢
              have t3 : (if w + 1 ≤ 120 then ((p + 1 : Int32), (3 : Int32), p, (0 : Int64), w + 1) else (p + 1, 3, p, 0, w + 1)) = (p + 1, (if w + 1 ≤ 120 then 3 else 3), p, 0, w + 1) := w1 3
              first
                | exact o
                | (rw [t3]; exact o)
            · rw [if_neg sg] at o ⊢
              exact o
      · rw [if_neg (fun q => he ((tx_e h p0).mp q))]
        have hb2 : b = f_Words_behindWord_L48 p tl tf 802 p := by
          rw [hb]
          unfold f_Words_behindWord
          simp only [lt_]
          rw [if_pos hd, if_neg he, f_Words_behindWord_L48_s p tl tf 801 p]
          simp only [lt_]
          rw [if_neg (by rw [oi_le, c800]; omega), if_neg he]
        obtain ⟨i1, i2, V, i3, i4⟩ := le_l h p p 3 P v w 801 802 p 0 0 p (w + 1) p0 (by omega) (by omega) (by omega) (by decide) (by rw [oi_z]; omega)
        rw [← hb2, oi_z] at i3 i4
        rw [← hb2] at i1 i2
        have bp : (b - p).toInt = b.toInt - p.toInt := oi_subE rfl rfl (by omega) (by omega)
        have hk2 : k = (if 8 < b - p then 1 else 3) := by
          rw [hk]
          unfold f_Words_kindOf
          simp only [lt_]
          rw [a] at hd he ⊢
          rw [if_neg nz, if_pos hd, if_neg he]
        have q8 : 8 < b - p ↔ ¬ (0 + (b.toInt - p.toInt) ≤ 8) := by rw [oi_lt, oi_8, bp]; omega
        rw [i3]
        by_cases c8 : 8 < b - p
        · rw [if_pos c8] at hk2
          rw [if_neg (q8.mp c8)]
          refine ⟨by rw [hk2]; decide, by omega, i2, 3, V, rfl, by rw [hk2]; exact kr_w (by decide), fun q => ?_⟩
          rw [hk2] at q
          rcases q with q | q <;> exact absurd q (by decide)
        · rw [if_neg c8] at hk2
          have c8' : 0 + (b.toInt - p.toInt) ≤ 8 := Classical.not_not.mp (fun q => c8 (q8.mpr q))
          rw [if_pos c8']
          refine ⟨by rw [hk2]; decide, by omega, i2, 2, V, rfl, by rw [hk2]; left; decide, fun _ => ?_⟩
          rw [hk2, i4 c8']
          unfold f_Words_worthOf
          rw [if_neg (by decide), if_pos rfl]
    · rw [if_neg (fun q => hd ((tx_d h p0).mp q))]
      have hb2 : b = f_Words_behindWord_L17 p tl tf 802 p := by
        rw [hb]
        unfold f_Words_behindWord
        simp only [lt_]
        rw [if_neg hd, f_Words_behindWord_L17_s p tl tf 801 p]
        simp only [lt_]
        rw [if_neg (by rw [oi_le, c800]; omega), if_neg hd]
      obtain ⟨i1, i2, V, i3, i4⟩ := dg_l h p p 2 P v w 801 802 p 0 0 p (w + 1) p0 (by omega) (by omega) (by omega) (by decide) (by rw [oi_z]; omega)
      rw [← hb2, oi_z] at i3 i4
      rw [← hb2] at i1 i2
      have bp : (b - p).toInt = b.toInt - p.toInt := oi_subE rfl rfl (by omega) (by omega)
      have hk2 : k = (if 9 < b - p then 1 else 2) := by
        rw [hk]
        unfold f_Words_kindOf
        simp only [lt_]
        rw [a] at hd ⊢
        rw [if_neg nz, if_neg hd]
      have q8 : 9 < b - p ↔ ¬ (0 + (b.toInt - p.toInt) ≤ 9) := by rw [oi_lt, show (9 : Int32).toInt = 9 by decide, bp]; omega
      rw [i3]
      by_cases c8 : 9 < b - p
      · rw [if_pos c8] at hk2
        rw [if_neg (q8.mp c8)]
        refine ⟨by rw [hk2]; decide, by omega, i2, 3, V, rfl, by rw [hk2]; exact kr_w (by decide), fun q => ?_⟩
        rw [hk2] at q
        rcases q with q | q <;> exact absurd q (by decide)
      · rw [if_neg c8] at hk2
        have c8' : 0 + (b.toInt - p.toInt) ≤ 9 := Classical.not_not.mp (fun q => c8 (q8.mpr q))
        rw [if_pos c8']
        refine ⟨by rw [hk2]; decide, by omega, i2, 1, V, rfl, by rw [hk2]; left; decide, fun _ => ?_⟩
        rw [hk2, i4 c8']
        unfold f_Words_worthOf
        rw [if_pos rfl]
  · obtain ⟨a, c⟩ := tx_0 (tf := tf) (mt := mt) p0 (by omega : tl.toInt ≤ p.toInt)
    rw [c, if_neg (show ¬ (-1 : Int32) = 32 by decide), if_neg (show ¬ (0 : Int32) ≤ -1 by decide)]
    left
    refine ⟨?_, rfl⟩
    rw [hk]
    unfold f_Words_kindOf
    simp only [lt_]
    rw [a, if_pos rfl]
