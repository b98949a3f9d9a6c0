def pr_xc (D : DT) : Int := D.2.1.toInt
def pr_ys (D : DT) : Nat → Int32 := D.2.2.2.2.2.1
def pr_yl (D : DT) : Nat → Int32 := D.2.2.2.2.2.2.1
def pr_yr (D : DT) : Nat → Int32 := D.2.2.2.2.2.2.2.1
def pr_ye (D : DT) : Nat → Int32 := D.2.2.2.2.2.2.2.2
/-! rules -/
def D3 (D : DT) (E : Int32) : DT := (D.1, D.2.1 + 1, D.2.2.1, D.2.2.2.1, D.2.2.2.2.1, D.2.2.2.2.2.1, upd D.2.2.2.2.2.2.1 (D.2.1 + 1).toNatClampNeg E, D.2.2.2.2.2.2.2.1, upd D.2.2.2.2.2.2.2.2 D.2.1.toNatClampNeg E)
def DN (D : DT) (v : Int64) : DT := (D.1 + 1, D.2.1, vp_updL D.2.2.1 D.1.toNatClampNeg v, vp_updL D.2.2.2.1 D.1.toNatClampNeg 0, upd D.2.2.2.2.1 D.1.toNatClampNeg D.2.1, D.2.2.2.2.2.1, D.2.2.2.2.2.2.1, D.2.2.2.2.2.2.2.1, D.2.2.2.2.2.2.2.2)
def DL (D : DT) (E : Int32) : DT := (D.1, D.2.1, D.2.2.1, D.2.2.2.1, D.2.2.2.2.1, D.2.2.2.2.2.1, upd D.2.2.2.2.2.2.1 D.2.1.toNatClampNeg E, D.2.2.2.2.2.2.2.1, D.2.2.2.2.2.2.2.2)
def DY (D : DT) (v : Int64) : DT := (D.1, D.2.1, D.2.2.1, vp_updL D.2.2.2.1 (D.1 - 1).toNatClampNeg v, D.2.2.2.2.1, D.2.2.2.2.2.1, D.2.2.2.2.2.2.1, D.2.2.2.2.2.2.2.1, D.2.2.2.2.2.2.2.2)
theorem pd_3 {C : CT} {D : DT} {E : Int32} {cc : Nat} (h : PD C D) (hx : D.2.1.toInt = (cc : Int)) (hl : cc < 119) : PD C (D3 D E) := by
  have e : D.2.1.toNatClampNeg = cc := by show D.2.1.toInt.toNat = cc; omega
  have e1 : (D.2.1 + 1).toInt = D.2.1.toInt + 1 := oi_addE rfl oi_1 (by omega) (by omega)
  have e2 : (D.2.1 + 1).toNatClampNeg = cc + 1 := by show (D.2.1 + 1).toInt.toNat = _; omega
  refine ⟨h.1, h.2.1, fun j hj => ?_⟩
  obtain ⟨h1, h2, h3, h4⟩ := h.2.2 j hj
  refine ⟨h1, ?_, h3, ?_⟩
  · show upd D.2.2.2.2.2.2.1 (D.2.1 + 1).toNatClampNeg E j = _
    rw [e2, u32_n _ _ (by omega)]
    exact h2
  · show upd D.2.2.2.2.2.2.2.2 D.2.1.toNatClampNeg E j = _
    rw [e, u32_n _ _ (by omega)]
    exact h4
theorem pd_n {C : CT} {D : DT} {v : Int64} {rc : Nat} (h : PD C D) (hx : D.1.toInt = (rc : Int)) (hl : rc < 12) : PD C (DN D v) := by
  have e : D.1.toNatClampNeg = rc := by show D.1.toInt.toNat = rc; omega
  refine ⟨fun j hj => ?_, fun j hj => ?_, h.2.2⟩
  · show vp_updL D.2.2.1 D.1.toNatClampNeg v j = _ ∧ vp_updL D.2.2.2.1 D.1.toNatClampNeg 0 j = _
    rw [e, up_n _ _ (by omega), up_n _ _ (by omega)]
    exact h.1 j hj
  · show upd D.2.2.2.2.1 D.1.toNatClampNeg D.2.1 j = _
    rw [e, u32_n _ _ (by omega)]
    exact h.2.1 j hj
theorem pd_l {C : CT} {D : DT} {E : Int32} {cc : Nat} (h : PD C D) (hx : D.2.1.toInt = (cc : Int)) (hl : cc < 120) : PD C (DL D E) := by
  have e : D.2.1.toNatClampNeg = cc := by show D.2.1.toInt.toNat = cc; omega
  refine ⟨h.1, h.2.1, fun j hj => ?_⟩
  obtain ⟨h1, h2, h3, h4⟩ := h.2.2 j hj
  refine ⟨h1, ?_, h3, h4⟩
  show upd D.2.2.2.2.2.2.1 D.2.1.toNatClampNeg E j = _
  rw [e, u32_n _ _ (by omega)]
  exact h2
theorem pd_y {C : CT} {D : DT} {v : Int64} {rc : Nat} (h : PD C D) (hx : D.1.toInt = ((rc + 1 : Nat) : Int)) (hl : rc < 12) : PD C (DY D v) := by
  have e1 : (D.1 - 1).toInt = D.1.toInt - 1 := oi_subE rfl oi_1 (by omega) (by omega)
  have e : (D.1 - 1).toNatClampNeg = rc := by show (D.1 - 1).toInt.toNat = rc; omega
  refine ⟨fun j hj => ?_, h.2.1, h.2.2⟩
  show _ ∧ vp_updL D.2.2.2.1 (D.1 - 1).toNatClampNeg v j = _
  rw [e, up_n _ _ (by omega)]
  exact h.1 j hj
def RUD (C : CT) (D : DT) (A wk : Nat → Int32) (cu sc : Nat) (bk : Nat → Int32) (bw : Nat → Int64) (o : OT) : Prop :=
  ∃ (n : Nat) (be ir xk xp : Int32) (xv : Int64) (xd xo : Int32) (yk : Nat → Int32) (yv : Nat → Int64) (yo : Nat → Int32), o = LR C n 0 0 be ir (A cu) xk xp xv (nI cu) D xd xo yk yv yo ∧ n + cu = 121 ∧ xd.toInt = (sc : Int) ∧ xo.toInt = 0 ∧ GW wk cu ∧ sc ≤ cu ∧ EQP [] sc bk bw sc 0 yk yv yo ∧ PU C yk yv
def DRD (D : DT) (rc cc sc : Nat) (bn bd : Nat → Int64) (bc bs bl br bk : Nat → Int32) : Prop := D.1.toInt = (rc : Int) ∧ D.2.1.toInt = (cc : Int) ∧ RL rc cc bn bd bc D.2.2.1 D.2.2.2.1 D.2.2.2.2.1 ∧ CS cc bs bl br bk D.2.2.2.2.2.1 D.2.2.2.2.2.2.1 D.2.2.2.2.2.2.2.1 D.2.2.2.2.2.2.2.2 sc ∧ C0 bc rc = (cc : Int) ∧ rc ≤ 12 ∧ cc ≤ 30
def FND (C : CT) (rc cc sc : Nat) (bn bd : Nat → Int64) (bc bs bl br bk : Nat → Int32) (bw : Nat → Int64) (o : OT) : Prop := ∃ (D : DT) (A K pl : Int32) (v : Int64) (w xd xo : Int32) (yk : Nat → Int32) (yv : Nat → Int64) (yo : Nat → Int32), o = TA C D A K pl v w xd xo yk yv yo ∧ DRD D rc cc sc bn bd bc bs bl br bk ∧ xd.toInt = (sc : Int) ∧ sc ≤ 120 ∧ EQP [] sc bk bw sc 0 yk yv yo ∧ 1 ≤ rc
/-- behind a rule -/
def ARD (C : CT) (A wk wp : Nat → Int32) (cu rc cc sc : Nat) (bn bd : Nat → Int64) (bc bs bl br bk : Nat → Int32) (bw : Nat → Int64) (o : OT) : Prop := GW wk cu ∧ 4 * cc ≤ cu ∧ (wk cu = 0 → FND C rc cc sc bn bd bc bs bl br bk bw o) ∧ (wk cu = 59 → ∃ D, RUD C D A wk (cu + 1) sc bk bw o ∧ DRD D rc cc sc bn bd bc bs bl br bk ∧ PD C D) ∧ (¬ wk cu = 0 → ¬ wk cu = 59 → FLD C wp cu o)
/-- the rule that is being read: its name, its first clause, and what came before it -/
def RI (D : DT) (rc c0 : Nat) (nm : Int64) (bn bd : Nat → Int64) (bc : Nat → Int32) : Prop := D.1.toInt = ((rc + 1 : Nat) : Int) ∧ rc < 12 ∧ D.2.2.1 rc = nm ∧ D.2.2.2.1 rc = 0 ∧ (D.2.2.2.2.1 rc).toInt = (c0 : Int) ∧ RL rc c0 bn bd bc D.2.2.1 D.2.2.2.1 D.2.2.2.2.1 ∧ C0 bc rc = (c0 : Int) ∧ ∀ q, q < rc → ¬ bn q = nm
/-- behind a clause of it -/
def LH (C : CT) (D : DT) (A wk : Nat → Int32) (cu sc cc : Nat) (bs bl br bk : Nat → Int32) (bw : Nat → Int64) (o : OT) : Prop := (∃ p Y, QS p ∧ BHD C D A wk 1 cu 0 p sc bk bw 0 Y o) ∧ NS wk cu ∧ D.2.1.toInt + 1 = (cc : Int) ∧ 1 ≤ cc ∧ cc ≤ 30 ∧ 4 * cc ≤ cu ∧ PD C D ∧ ∀ E : Int32, E.toInt = (sc : Int) → CS cc bs bl br bk D.2.2.2.2.2.1 (upd D.2.2.2.2.2.2.1 cc E) D.2.2.2.2.2.2.2.1 (upd D.2.2.2.2.2.2.2.2 (cc - 1) E) sc
theorem c0_u {bc : Nat → Int32} {rc k : Nat} {S : Int32} (h : k ≤ rc) : C0 (upd bc rc S) k = C0 bc k := by
  unfold C0
  by_cases g : k = 0
  · rw [if_pos g, if_pos g]
  · rw [if_neg g, if_neg g, u32_n _ _ (by omega)]
theorem c0_s {bc : Nat → Int32} {rc : Nat} {S : Int32} : C0 (upd bc rc S) (rc + 1) = S.toInt := by
  unfold C0
  rw [if_neg (by omega), show rc + 1 - 1 = rc by omega, u32_s]
/-- one rule more -/
theorem rl_s {rc c0 cc : Nat} {nm dy : Int64} {bn bd yn yd yd' : Nat → Int64} {bc yf : Nat → Int32} {S : Int32} (h : RL rc c0 bn bd bc yn yd yf) (h1 : yn rc = nm) (h2 : yd' rc = dy) (h2' : ∀ q, q < rc → yd' q = yd q) (h3 : (yf rc).toInt = (c0 : Int)) (h4 : C0 bc rc = (c0 : Int)) (h5 : ∀ q, q < rc → ¬ bn q = nm) (hS : S.toInt = (cc : Int)) (hl : c0 < cc) : RL (rc + 1) cc (vp_updL bn rc nm) (vp_updL bd rc dy) (upd bc rc S) yn yd' yf := by
  obtain ⟨g1, g2⟩ := h
  refine ⟨fun q hq => ?_, fun p q hp hq e => ?_⟩
  · by_cases e : q = rc
    · subst e
      rw [up_s, up_s, u32_s, c0_u (Nat.le_refl _), h4, hS]
      exact ⟨h1.symm, h2.symm, h3, by omega, by omega, by omega⟩
    · obtain ⟨a1, a2, a3, a4, a5, a6⟩ := g1 q (by omega)
      rw [up_n _ _ e, up_n _ _ e, u32_n _ _ e, c0_u (by omega), h2' q (by omega)]
      exact ⟨a1, a2, a3, a4, a5, by omega⟩
  · by_cases ep : p = rc <;> by_cases eq : q = rc
    · rw [ep, eq]
    · rw [ep, up_s, up_n _ _ eq] at e
      exact absurd e.symm (h5 q (by omega))
    · rw [eq, up_s, up_n _ _ ep] at e
      exact absurd e (h5 p (by omega))
    · rw [up_n _ _ ep, up_n _ _ eq] at e
      exact g2 p q (by omega) (by omega) e
theorem ar_k {nm dy : Int64} {rci cci : Int32} {rc : Nat} {bn bd : Nat → Int64} {bc : Nat → Int32} (h : rci.toInt = (rc : Int)) (hl : rc < 12) : f_Book_addRule nm dy rci cci bn bd bc = (rci + 1, vp_updL bn rc nm, vp_updL bd rc dy, upd bc rc cci) ∧ (rci + 1).toInt = ((rc + 1 : Nat) : Int) := by
  have e : rci.toNatClampNeg = rc := by show rci.toInt.toNat = rc; omega
  have : (rci + 1).toInt = (rc : Int) + 1 := oi_addE h oi_1 (by omega) (by omega)
  have c12 : (12 : Int32).toInt = 12 := by decide
  unfold f_Book_addRule
  rw [if_neg (by rw [oi_lt, oi_z]; omega), if_neg (by rw [oi_le, c12]; omega), if_neg (by rw [oi_le, c12]; omega), if_neg (by rw [oi_le, c12]; omega), e]
  exact ⟨rfl, by rw [this]; omega⟩
/-- the clause's end was met -/
theorem lh_3 {C : CT} {D : DT} {A wk : Nat → Int32} {cu sc cc : Nat} {bs bl br bk : Nat → Int32} {bw : Nat → Int64} {o : OT} (h : LH C D A wk cu sc cc bs bl br bk bw o) {E : Int32} (hE : E.toInt = (sc : Int)) : pr_xc (D3 D E) = (cc : Int) ∧ CS cc bs bl br bk (pr_ys (D3 D E)) (pr_yl (D3 D E)) (pr_yr (D3 D E)) (pr_ye (D3 D E)) sc ∧ PD C (D3 D E) ∧ (pr_yl (D3 D E) cc).toInt = (sc : Int) := by
  obtain ⟨-, -, h3, h4, h5, h6, h7, h8⟩ := h
  have e1 : (D.2.1 + 1).toInt = D.2.1.toInt + 1 := oi_addE rfl oi_1 (by omega) (by omega)
  have e2 : (D.2.1 + 1).toNatClampNeg = cc := by show (D.2.1 + 1).toInt.toNat = _; omega
  have e3 : D.2.1.toNatClampNeg = cc - 1 := by show D.2.1.toInt.toNat = _; omega
  have s := h8 E hE
  refine ⟨by show (D.2.1 + 1).toInt = _; omega, ?_, pd_3 (cc := cc - 1) h7 (by omega) (by omega), ?_⟩
  · show CS cc bs bl br bk D.2.2.2.2.2.1 (upd D.2.2.2.2.2.2.1 (D.2.1 + 1).toNatClampNeg E) D.2.2.2.2.2.2.2.1 (upd D.2.2.2.2.2.2.2.2 D.2.1.toNatClampNeg E) sc
    rw [e2, e3]
    exact s
  · show (upd D.2.2.2.2.2.2.1 (D.2.1 + 1).toNatClampNeg E cc).toInt = _
    rw [e2, u32_s]
    exact hE
