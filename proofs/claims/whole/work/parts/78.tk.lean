/-! the row of words -/
def AT (tl : Int32) (tf : Nat → Int32) : Nat → Int32
  | 0 => 0
  | i + 1 => f_Words_behindWord (f_Words_behindBlanks (AT tl tf i) tl tf) tl tf
def kd0 (tl : Int32) (tf : Nat → Int32) (i : Nat) : Int32 := f_Words_kindOf (f_Words_behindBlanks (AT tl tf i) tl tf) (AT tl tf (i + 1)) tl tf
def kdi (tl : Int32) (tf : Nat → Int32) (i : Nat) : Int32 := if i = 120 then (if kd0 tl tf i = 0 then 0 else 1) else kd0 tl tf i
def INF (tl : Int32) (tf : Nat → Int32) (xk xp : Nat → Int32) (xw : Nat → Int64) (q : Nat) : Prop := xk q = kdi tl tf q ∧ xp q = f_Words_behindBlanks (AT tl tf q) tl tf ∧ xw q = f_Words_worthOf (f_Words_behindBlanks (AT tl tf q) tl tf) (AT tl tf (q + 1)) (kdi tl tf q) tl tf
theorem inf_n {tl : Int32} {tf xk xp : Nat → Int32} {xw : Nat → Int64} {i q : Nat} {a b : Int32} {c : Int64} (h : INF tl tf xk xp xw q) (hq : q ≠ i) : INF tl tf (upd xk i a) (upd xp i b) (vp_updL xw i c) q := by
  unfold INF
  rw [u32_n _ _ hq, u32_n _ _ hq, up_n _ _ hq]
  exact h
theorem sp_l (wk wp : Nat → Int32) (ww : Nat → Int64) (tl : Int32) (tf : Nat → Int32) : ∀ (n : Nat) (i pl : Int32) (xk xp : Nat → Int32) (xw : Nat → Int64), i.toInt + (n : Int) = 122 → 0 ≤ i.toInt → i.toInt ≤ 121 → pl = AT tl tf i.toInt.toNat → (∀ j, j < i.toInt.toNat → INF tl tf xk xp xw j) → (f_Words_split_L9 wk wp ww tl tf n i pl xk xp xw).1 = 0 ∧ ∀ q, q ≤ 120 → (∀ j, j < q → ¬ kdi tl tf j = 0 ∧ ¬ kdi tl tf j = 1) → INF tl tf (f_Words_split_L9 wk wp ww tl tf n i pl xk xp xw).2.1 (f_Words_split_L9 wk wp ww tl tf n i pl xk xp xw).2.2.1 (f_Words_split_L9 wk wp ww tl tf n i pl xk xp xw).2.2.2 q := by
  intro n
  induction n with
  | zero => intro i pl xk xp xw h1 h2 h3; omega
  | succ n ih =>
    intro i pl xk xp xw h1 h2 h3 h4 h5
    rw [f_Words_split_L9_s]
    have c120 : (120 : Int32).toInt = 120 := by decide
    have c121 : (121 : Int32).toInt = 121 := by decide
    by_cases hi : 120 < i
    · rw [if_pos hi]
      rw [oi_lt, c120] at hi
      exact ⟨rfl, fun q hq _ => h5 q (by omega)⟩
    · rw [if_neg hi]
      rw [oi_lt, c120] at hi
      rw [if_neg (by rw [oi_le, c121]; omega), if_neg (by rw [oi_le, c121]; omega), if_neg (by rw [oi_le, c121]; omega)]
      simp only [lt_]
      have hn : i.toNatClampNeg = i.toInt.toNat := rfl
      rw [hn]
      subst h4
      have z6 : f_Words_behindWord (f_Words_behindBlanks (AT tl tf i.toInt.toNat) tl tf) tl tf = AT tl tf (i.toInt.toNat + 1) := rfl
      rw [z6]
      have z7 : f_Words_kindOf (f_Words_behindBlanks (AT tl tf i.toInt.toNat) tl tf) (AT tl tf (i.toInt.toNat + 1)) tl tf = kd0 tl tf i.toInt.toNat := rfl
      rw [z7]
      have stop : ∀ a : Int32, a = kdi tl tf i.toInt.toNat → (a = 0 ∨ a = 1) → ∀ q, q ≤ 120 → (∀ j, j < q → ¬ kdi tl tf j = 0 ∧ ¬ kdi tl tf j = 1) → INF tl tf (upd xk i.toInt.toNat a) (upd xp i.toInt.toNat (f_Words_behindBlanks (AT tl tf i.toInt.toNat) tl tf)) (vp_updL xw i.toInt.toNat (f_Words_worthOf (f_Words_behindBlanks (AT tl tf i.toInt.toNat) tl tf) (AT tl tf (i.toInt.toNat + 1)) a tl tf)) q := by
        intro a ha ha2 q hq hj
        rcases Nat.lt_trichotomy q i.toInt.toNat with g | g | g
        · exact inf_n (h5 q g) (by omega)
        · subst g
          unfold INF
          rw [u32_s, u32_s, up_s, ha]
          exact ⟨rfl, rfl, rfl⟩
        · have := hj i.toInt.toNat g
          rw [← ha] at this
          rcases ha2 with e | e
          · exact absurd e this.1
          · exact absurd e this.2
      by_cases h120 : i = 120
      · have iN : i.toInt.toNat = 120 := by rw [h120]; decide
        rw [if_pos h120]
        by_cases k0 : kd0 tl tf i.toInt.toNat = 0
        · rw [if_pos k0, if_pos k0]
          refine ⟨rfl, stop _ ?_ (Or.inl k0)⟩
          unfold kdi
          rw [if_pos iN, if_pos k0, k0]
        · rw [if_neg k0]
          refine ⟨rfl, stop 1 ?_ (Or.inr rfl)⟩
          unfold kdi
          rw [if_pos iN, if_neg k0]
      · have iN : ¬ i.toInt.toNat = 120 := fun e => h120 (i32_ext (by rw [c120]; omega))
        have ke : kd0 tl tf i.toInt.toNat = kdi tl tf i.toInt.toNat := by
          unfold kdi
          rw [if_neg iN]
        rw [if_neg h120]
        by_cases k0 : kd0 tl tf i.toInt.toNat = 0
        · rw [if_pos k0]
          exact ⟨rfl, stop _ ke (Or.inl k0)⟩
        · rw [if_neg k0]
          by_cases k1 : kd0 tl tf i.toInt.toNat = 1
          · rw [if_pos k1]
            exact ⟨rfl, stop _ ke (Or.inr k1)⟩
          · rw [if_neg k1]
            have i1 : (i + 1).toInt = i.toInt + 1 := oi_addE rfl oi_1 (by omega) (by omega)
            refine ih (i + 1) _ _ _ _ (by omega) (by omega) (by omega) (by rw [show (i + 1).toInt.toNat = i.toInt.toNat + 1 by omega]) (fun j hj => ?_)
            by_cases hj2 : j = i.toInt.toNat
            · subst hj2
              unfold INF
              rw [u32_s, u32_s, up_s, ke]
              exact ⟨rfl, rfl, rfl⟩
            · exact inf_n (h5 j (by omega)) hj2
/-- words and what the other scanner finds at their places -/
def TKN (tl : Int32) (mt : Nat → Int32) (A : Nat → Int32) (wk wp : Nat → Int32) (ww : Nat → Int64) : Prop :=
  A 0 = 0 ∧ (wk 120 = 0 ∨ wk 120 = 1 ∨ ∃ j, j < 120 ∧ (wk j = 0 ∨ wk j = 1)) ∧ ∀ cu : Nat, cu ≤ 120 → (∀ j, j < cu → ¬ wk j = 0 ∧ ¬ wk j = 1) → ∀ v, ∃ K v' A' w', f_Model_next tl (A cu) v (nI cu) mt = (A', K, wp cu, v', w') ∧ KR (wk cu) K ∧ (wk cu = 2 ∨ wk cu = 3 → v' = ww cu) ∧ (¬ wk cu = 0 → w' = nI (cu + 1) ∧ A' = A (cu + 1))
theorem tk_ok {tl : Int32} {tf mt : Nat → Int32} (h : RT tl tf tl mt) (wk wp : Nat → Int32) (ww : Nat → Int64) : (f_Words_split wk wp ww tl tf).1 = 0 ∧ TKN tl mt (AT tl tf) (f_Words_split wk wp ww tl tf).2.1 (f_Words_split wk wp ww tl tf).2.2.1 (f_Words_split wk wp ww tl tf).2.2.2 := by
  obtain ⟨s1, s2⟩ := sp_l wk wp ww tl tf 122 0 0 wk wp ww (by decide) (by decide) (by decide) rfl (fun j hj => by rw [oi_z] at hj; exact absurd hj (Nat.not_lt_zero _))
  refine ⟨s1, ?_⟩
  unfold f_Words_split
  generalize f_Words_split_L9 wk wp ww tl tf 122 0 0 wk wp ww = z at s2 ⊢
  have ok : ∀ cu, cu ≤ 121 → (∀ j, j < cu → ¬ z.2.1 j = 0 ∧ ¬ z.2.1 j = 1) → ∀ j, j < cu → ¬ kdi tl tf j = 0 ∧ ¬ kdi tl tf j = 1 := by
    intro cu
    induction cu with
    | zero => intro _ _ j hj; exact absurd hj (Nat.not_lt_zero _)
    | succ cu ih =>
      intro hc hz j hj
      have i := ih (by omega) (fun j hj => hz j (by omega))
      rcases Nat.lt_or_eq_of_le (Nat.le_of_lt_succ hj) with q | q
      · exact i j q
      · rw [q, ← (s2 cu (by omega) i).1]
        exact hz cu (by omega)
  have bnd : ∀ cu, (∀ j, j < cu → ¬ kdi tl tf j = 0 ∧ ¬ kdi tl tf j = 1) → cu ≤ 120 → 0 ≤ (AT tl tf cu).toInt ∧ (AT tl tf cu).toInt ≤ tl.toInt := by
    intro cu
    induction cu with
    | zero =>
      intro _ _
      show 0 ≤ (0 : Int32).toInt ∧ (0 : Int32).toInt ≤ tl.toInt
      rw [oi_z]
      exact ⟨by omega, h.2.1⟩
    | succ cu ih =>
      intro hj hc
      obtain ⟨b0, b1⟩ := ih (fun j hj' => hj j (by omega)) (by omega)
      have k := hj cu (by omega)
      have kk : kdi tl tf cu = kd0 tl tf cu := by unfold kdi; rw [if_neg (by omega)]
      rcases nx_e h (AT tl tf cu) 0 0 b0 b1 rfl rfl rfl with ⟨e, -⟩ | ⟨-, e1, e2, -⟩
      · rw [kk] at k
        exact absurd e k.1
      · exact ⟨e1, e2⟩
  refine ⟨rfl, ?_, fun cu hc hz v => ?_⟩
  · by_cases g : ∀ j, j < 120 → ¬ z.2.1 j = 0 ∧ ¬ z.2.1 j = 1
    · have i := (s2 120 (by decide) (ok 120 (by decide) g)).1
      rw [i]
      unfold kdi
      rw [if_pos rfl]
      split
      · exact Or.inl rfl
      · exact Or.inr (Or.inl rfl)
    · right; right
      apply Classical.byContradiction
      intro q
      apply g
      intro j hj
      exact ⟨fun e => q ⟨j, hj, Or.inl e⟩, fun e => q ⟨j, hj, Or.inr e⟩⟩
  · have hk := ok cu (by omega) hz
    obtain ⟨i1, i2, i3⟩ := s2 cu hc hk
    obtain ⟨b0, b1⟩ := bnd cu hk hc
    have w1 : (nI cu).toInt = (cu : Int) := nI_toInt (by omega)
    have w2 : (nI cu + 1).toInt = (cu : Int) + 1 := oi_addE w1 oi_1 (by omega) (by omega)
    have w3 : nI cu + 1 = nI (cu + 1) := i32_ext (by rw [w2, nI_toInt (by omega)]; omega)
    rcases nx_e h (AT tl tf cu) v (nI cu) b0 b1 rfl rfl rfl with ⟨e, e2⟩ | ⟨e, e1, e2, K, v', e3, e4, e5⟩
    · have e : kd0 tl tf cu = 0 := e
      have kz : z.2.1 cu = 0 := by
        rw [i1]
        unfold kdi
        by_cases q : cu = 120
        · rw [if_pos q, if_pos e]
        · rw [if_neg q]
          exact e
      refine ⟨0, v, _, _, by rw [e2, i2], by rw [kz]; left; decide, fun q => ?_, fun q => absurd kz q⟩
      rw [kz] at q
      rcases q with q | q <;> exact absurd q (by decide)
    · have e : ¬ kd0 tl tf cu = 0 := e
      by_cases c120 : cu = 120
      · have kz : z.2.1 cu = 1 := by
          rw [i1]
          unfold kdi
          rw [if_pos c120, if_neg e]
        refine ⟨3, v', _, _, by rw [e3, i2, if_neg (by rw [oi_le, w2, show (120 : Int32).toInt = 120 by decide]; omega)]; rfl, by rw [kz]; exact kr_w (by decide), fun q => ?_, fun _ => ⟨w3, rfl⟩⟩
        rw [kz] at q
        rcases q with q | q <;> exact absurd q (by decide)
      · have kz : z.2.1 cu = kd0 tl tf cu := by
          rw [i1]
          unfold kdi
          rw [if_neg c120]
        refine ⟨K, v', _, _, by rw [e3, i2, if_pos (by rw [oi_le, w2, show (120 : Int32).toInt = 120 by decide]; omega)]; rfl, by rw [kz]; exact e4, fun q => ?_, fun _ => ⟨w3, rfl⟩⟩
        rw [kz] at q
        rw [e5 q, i3, i1.symm.trans kz]
        rfl
