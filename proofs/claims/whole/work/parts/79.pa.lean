/-! one step of reading -/
abbrev OT : Type := Int32 × Int32 × Int32 × Int32 × Int32 × Int32 × Int64 × Int32 × Int32 × Int32 × Int32 × Int32 × Int32 × Int32 × Int32 × (Nat → Int64) × (Nat → Int64) × (Nat → Int32) × (Nat → Int32) × (Nat → Int32) × (Nat → Int32) × (Nat → Int32) × (Nat → Int32) × (Nat → Int64) × (Nat → Int32)
abbrev CT : Type := Int32 × Int32 × Int32 × Int64 × Int32 × Int32 × Int32 × (Nat → Int32) × (Nat → Int64) × (Nat → Int64) × (Nat → Int32) × (Nat → Int32) × (Nat → Int32) × (Nat → Int32) × (Nat → Int32) × (Nat → Int32) × (Nat → Int64) × (Nat → Int32)
abbrev DT : Type := Int32 × Int32 × (Nat → Int64) × (Nat → Int64) × (Nat → Int32) × (Nat → Int32) × (Nat → Int32) × (Nat → Int32) × (Nat → Int32)
def LR (C : CT) (n : Nat) (st de be ir xa xk xp : Int32) (xv : Int64) (xw : Int32) (D : DT) (xd xo : Int32) (yk : Nat → Int32) (yv : Nat → Int64) (yo : Nat → Int32) : OT := f_Model_read_L50 C.1 C.2.1 C.2.2.1 C.2.2.2.1 C.2.2.2.2.1 C.2.2.2.2.2.1 C.2.2.2.2.2.2.1 C.2.2.2.2.2.2.2.1 C.2.2.2.2.2.2.2.2.1 C.2.2.2.2.2.2.2.2.2.1 C.2.2.2.2.2.2.2.2.2.2.1 C.2.2.2.2.2.2.2.2.2.2.2.1 C.2.2.2.2.2.2.2.2.2.2.2.2.1 C.2.2.2.2.2.2.2.2.2.2.2.2.2.1 C.2.2.2.2.2.2.2.2.2.2.2.2.2.2.1 C.2.2.2.2.2.2.2.2.2.2.2.2.2.2.2.1 C.2.2.2.2.2.2.2.2.2.2.2.2.2.2.2.2.1 C.2.2.2.2.2.2.2.2.2.2.2.2.2.2.2.2.2 n st de be ir xa xk xp xv xw D.1 D.2.1 xd xo D.2.2.1 D.2.2.2.1 D.2.2.2.2.1 D.2.2.2.2.2.1 D.2.2.2.2.2.2.1 D.2.2.2.2.2.2.2.1 D.2.2.2.2.2.2.2.2 yk yv yo
/-- what is left where a word is wrong -/
def FA (C : CT) (D : DT) (A K pl : Int32) (v : Int64) (w xd xo : Int32) (yk : Nat → Int32) (yv : Nat → Int64) (yo : Nat → Int32) : OT := ((-1) - pl, 0, C.1, A, K, pl, v, w, D.1, D.2.1, xd, C.2.2.2.2.1, C.2.2.2.2.2.1, xo, C.2.2.2.2.2.2.1, D.2.2.1, D.2.2.2.1, D.2.2.2.2.1, D.2.2.2.2.2.1, D.2.2.2.2.2.2.1, D.2.2.2.2.2.2.2.1, D.2.2.2.2.2.2.2.2, yk, yv, yo)
/-- what is left where the text is right -/
def TA (C : CT) (D : DT) (A K pl : Int32) (v : Int64) (w xd xo : Int32) (yk : Nat → Int32) (yv : Nat → Int64) (yo : Nat → Int32) : OT := ((f_Model_take D.1 D.2.1 xd D.2.2.1 D.2.2.2.1 D.2.2.2.2.1 D.2.2.2.2.2.1 D.2.2.2.2.2.2.1 D.2.2.2.2.2.2.2.1 D.2.2.2.2.2.2.2.2 yk yv).2.1, 0, (f_Model_take D.1 D.2.1 xd D.2.2.1 D.2.2.2.1 D.2.2.2.2.1 D.2.2.2.2.2.1 D.2.2.2.2.2.2.1 D.2.2.2.2.2.2.2.1 D.2.2.2.2.2.2.2.2 yk yv).1, A, K, pl, v, w, D.1, D.2.1, xd, (f_Model_take D.1 D.2.1 xd D.2.2.1 D.2.2.2.1 D.2.2.2.2.1 D.2.2.2.2.2.1 D.2.2.2.2.2.2.1 D.2.2.2.2.2.2.2.1 D.2.2.2.2.2.2.2.2 yk yv).2.1, (f_Model_take D.1 D.2.1 xd D.2.2.1 D.2.2.2.1 D.2.2.2.2.1 D.2.2.2.2.2.1 D.2.2.2.2.2.2.1 D.2.2.2.2.2.2.2.1 D.2.2.2.2.2.2.2.2 yk yv).2.2.1, xo, (f_Model_take D.1 D.2.1 xd D.2.2.1 D.2.2.2.1 D.2.2.2.2.1 D.2.2.2.2.2.1 D.2.2.2.2.2.2.1 D.2.2.2.2.2.2.2.1 D.2.2.2.2.2.2.2.2 yk yv).2.2.2.1, (f_Model_take D.1 D.2.1 xd D.2.2.1 D.2.2.2.1 D.2.2.2.2.1 D.2.2.2.2.2.1 D.2.2.2.2.2.2.1 D.2.2.2.2.2.2.2.1 D.2.2.2.2.2.2.2.2 yk yv).2.2.2.2.1, (f_Model_take D.1 D.2.1 xd D.2.2.1 D.2.2.2.1 D.2.2.2.2.1 D.2.2.2.2.2.1 D.2.2.2.2.2.2.1 D.2.2.2.2.2.2.2.1 D.2.2.2.2.2.2.2.2 yk yv).2.2.2.2.2.1, (f_Model_take D.1 D.2.1 xd D.2.2.1 D.2.2.2.1 D.2.2.2.2.1 D.2.2.2.2.2.1 D.2.2.2.2.2.2.1 D.2.2.2.2.2.2.2.1 D.2.2.2.2.2.2.2.2 yk yv).2.2.2.2.2.2.1, (f_Model_take D.1 D.2.1 xd D.2.2.1 D.2.2.2.1 D.2.2.2.2.1 D.2.2.2.2.2.1 D.2.2.2.2.2.2.1 D.2.2.2.2.2.2.2.1 D.2.2.2.2.2.2.2.2 yk yv).2.2.2.2.2.2.2.1, (f_Model_take D.1 D.2.1 xd D.2.2.1 D.2.2.2.1 D.2.2.2.2.1 D.2.2.2.2.2.1 D.2.2.2.2.2.2.1 D.2.2.2.2.2.2.2.1 D.2.2.2.2.2.2.2.2 yk yv).2.2.2.2.2.2.2.2.1, (f_Model_take D.1 D.2.1 xd D.2.2.1 D.2.2.2.1 D.2.2.2.2.1 D.2.2.2.2.2.1 D.2.2.2.2.2.2.1 D.2.2.2.2.2.2.2.1 D.2.2.2.2.2.2.2.2 yk yv).2.2.2.2.2.2.2.2.2.1, (f_Model_take D.1 D.2.1 xd D.2.2.1 D.2.2.2.1 D.2.2.2.2.1 D.2.2.2.2.2.1 D.2.2.2.2.2.2.1 D.2.2.2.2.2.2.2.1 D.2.2.2.2.2.2.2.2 yk yv).2.2.2.2.2.2.2.2.2.2.1, (f_Model_take D.1 D.2.1 xd D.2.2.1 D.2.2.2.1 D.2.2.2.2.1 D.2.2.2.2.2.1 D.2.2.2.2.2.2.1 D.2.2.2.2.2.2.2.1 D.2.2.2.2.2.2.2.2 yk yv).2.2.2.2.2.2.2.2.2.2.2.1, (f_Model_take D.1 D.2.1 xd D.2.2.1 D.2.2.2.1 D.2.2.2.2.1 D.2.2.2.2.2.1 D.2.2.2.2.2.2.1 D.2.2.2.2.2.2.2.1 D.2.2.2.2.2.2.2.2 yk yv).2.2.2.2.2.2.2.2.2.2.2.2, yo)
set_option maxHeartbeats 2000000 in
theorem s_neg {C : CT} {n : Nat} {de be ir xa xk xp : Int32} {xv : Int64} {xw : Int32} {D : DT} {xd xo : Int32} {yk : Nat → Int32} {yv : Nat → Int64} {yo : Nat → Int32} {A K pl : Int32} {v : Int64} {w : Int32} (hN : f_Model_next C.1 xa xv xw C.2.2.2.2.2.2.2.1 = (A, K, pl, v, w)) (hK : K = 45) (hb : ¬ be = 0) : LR C (n + 1) 2 de be ir xa xk xp xv xw D xd xo yk yv yo = LR C n 2 de 0 ir A K pl v w D xd (xo + 1) yk yv (upd yo xo.toNatClampNeg 78) := by
  unfold LR
  rw [f_Model_read_L50_s]
  simp only [lt_, hN, if_true]
  rw [if_neg (show ¬ (2 : Int32) = 0 by decide), if_neg (show ¬ (2 : Int32) = 1 by decide)]
  rw [if_pos hK, if_neg hb]
  try rfl
set_option maxHeartbeats 2000000 in
theorem s_num {C : CT} {n : Nat} {de be ir xa xk xp : Int32} {xv : Int64} {xw : Int32} {D : DT} {xd xo : Int32} {yk : Nat → Int32} {yv : Nat → Int64} {yo : Nat → Int32} {A K pl : Int32} {v : Int64} {w : Int32} (hN : f_Model_next C.1 xa xv xw C.2.2.2.2.2.2.2.1 = (A, K, pl, v, w)) (hK : K = 1 ∨ K = 2) : LR C (n + 1) 2 de be ir xa xk xp xv xw D xd xo yk yv yo = LR C n 3 de be ir A K pl v w D (xd + 1) xo (upd yk xd.toNatClampNeg K) (vp_updL yv xd.toNatClampNeg v) yo := by
  unfold LR
  rw [f_Model_read_L50_s]
  simp only [lt_, hN, if_true]
  rw [if_neg (show ¬ (2 : Int32) = 0 by decide), if_neg (show ¬ (2 : Int32) = 1 by decide)]
  have n45 : ¬ K = 45 := by rcases hK with e | e <;> rw [e] <;> decide
  rw [if_neg n45]
  rcases hK with e | e
  · rw [if_pos e]
    try rfl
  · rw [if_neg (by rw [e]; decide), if_pos e]
    try rfl
set_option maxHeartbeats 2000000 in
theorem s_par {C : CT} {n : Nat} {de be ir xa xk xp : Int32} {xv : Int64} {xw : Int32} {D : DT} {xd xo : Int32} {yk : Nat → Int32} {yv : Nat → Int64} {yo : Nat → Int32} {A K pl : Int32} {v : Int64} {w : Int32} (hN : f_Model_next C.1 xa xv xw C.2.2.2.2.2.2.2.1 = (A, K, pl, v, w)) (hK : K = 40) (hd : ¬ 8 ≤ de) : LR C (n + 1) 2 de be ir xa xk xp xv xw D xd xo yk yv yo = LR C n 2 (de + 1) 1 ir A K pl v w D xd (xo + 1) yk yv (upd yo xo.toNatClampNeg 40) := by
  unfold LR
  rw [f_Model_read_L50_s]
  simp only [lt_, hN, if_true]
  rw [if_neg (show ¬ (2 : Int32) = 0 by decide), if_neg (show ¬ (2 : Int32) = 1 by decide)]
  rw [if_neg (by rw [hK]; decide), if_neg (by rw [hK]; decide), if_neg (by rw [hK]; decide), if_pos hK, if_neg hd]
  try rfl
set_option maxHeartbeats 2000000 in
theorem s_bad {C : CT} {n : Nat} {de be ir xa xk xp : Int32} {xv : Int64} {xw : Int32} {D : DT} {xd xo : Int32} {yk : Nat → Int32} {yv : Nat → Int64} {yo : Nat → Int32} {A K pl : Int32} {v : Int64} {w : Int32} (hN : f_Model_next C.1 xa xv xw C.2.2.2.2.2.2.2.1 = (A, K, pl, v, w)) (h1 : ¬ (K = 45 ∧ ¬ be = 0)) (h2 : ¬ K = 1) (h3 : ¬ K = 2) (h4 : ¬ (K = 40 ∧ ¬ 8 ≤ de)) : LR C (n + 1) 2 de be ir xa xk xp xv xw D xd xo yk yv yo = FA C D A K pl v w xd xo yk yv yo := by
  unfold LR
  rw [f_Model_read_L50_s]
  simp only [lt_, hN, if_true]
  rw [if_neg (show ¬ (2 : Int32) = 0 by decide), if_neg (show ¬ (2 : Int32) = 1 by decide)]
  by_cases g : K = 45
  · rw [if_pos g, if_pos (Classical.not_not.mp (fun q => h1 ⟨g, q⟩))]
    try rfl
  · rw [if_neg g, if_neg h2, if_neg h3]
    by_cases g2 : K = 40
    · rw [if_pos g2, if_pos (Classical.not_not.mp (fun q => h4 ⟨g2, q⟩))]
      try rfl
    · rw [if_neg g2]
      try rfl
set_option maxHeartbeats 2000000 in
theorem s_mul {C : CT} {n : Nat} {de be ir xa xk xp : Int32} {xv : Int64} {xw : Int32} {D : DT} {xd xo : Int32} {yk : Nat → Int32} {yv : Nat → Int64} {yo : Nat → Int32} {A K pl : Int32} {v : Int64} {w : Int32} (hN : f_Model_next C.1 xa xv xw C.2.2.2.2.2.2.2.1 = (A, K, pl, v, w)) (hK : K = 42 ∨ K = 47) : LR C (n + 1) 3 de be ir xa xk xp xv xw D xd xo yk yv yo = LR C n 2 de 0 ir A K pl v w D (f_Model_reduce 3 xd xo yk yv yo).1 ((f_Model_reduce 3 xd xo yk yv yo).2.1 + 1) (f_Model_reduce 3 xd xo yk yv yo).2.2.1 (f_Model_reduce 3 xd xo yk yv yo).2.2.2 (upd yo (f_Model_reduce 3 xd xo yk yv yo).2.1.toNatClampNeg K) := by
  unfold LR
  rw [f_Model_read_L50_s]
  simp only [lt_, hN, if_true]
  rw [if_neg (show ¬ (3 : Int32) = 0 by decide), if_neg (show ¬ (3 : Int32) = 1 by decide), if_neg (show ¬ (3 : Int32) = 2 by decide)]
  rcases hK with e | e
  · simp only [if_pos e]
    by_cases g1 : de = 0
    · rw [if_pos g1]
      by_cases g2 : ir = 0
      · rw [if_pos g2]; try rfl
      · rw [if_neg g2]; try rfl
    · rw [if_neg g1]; try rfl
  · have n : ¬ K = 42 := by rw [e]; decide
    simp only [if_neg n, if_pos e]
    by_cases g1 : de = 0
    · rw [if_pos g1]
      by_cases g2 : ir = 0
      · rw [if_pos g2]; try rfl
      · rw [if_neg g2]; try rfl
    · rw [if_neg g1]; try rfl
set_option maxHeartbeats 2000000 in
theorem s_add {C : CT} {n : Nat} {de be ir xa xk xp : Int32} {xv : Int64} {xw : Int32} {D : DT} {xd xo : Int32} {yk : Nat → Int32} {yv : Nat → Int64} {yo : Nat → Int32} {A K pl : Int32} {v : Int64} {w : Int32} (hN : f_Model_next C.1 xa xv xw C.2.2.2.2.2.2.2.1 = (A, K, pl, v, w)) (hK : K = 43 ∨ K = 45) : LR C (n + 1) 3 de be ir xa xk xp xv xw D xd xo yk yv yo = LR C n 2 de 0 ir A K pl v w D (f_Model_reduce 1 xd xo yk yv yo).1 ((f_Model_reduce 1 xd xo yk yv yo).2.1 + 1) (f_Model_reduce 1 xd xo yk yv yo).2.2.1 (f_Model_reduce 1 xd xo yk yv yo).2.2.2 (upd yo (f_Model_reduce 1 xd xo yk yv yo).2.1.toNatClampNeg K) := by
  unfold LR
  rw [f_Model_read_L50_s]
  simp only [lt_, hN, if_true]
  rw [if_neg (show ¬ (3 : Int32) = 0 by decide), if_neg (show ¬ (3 : Int32) = 1 by decide), if_neg (show ¬ (3 : Int32) = 2 by decide)]
  have n1 : ¬ K = 42 := by rcases hK with e | e <;> rw [e] <;> decide
  have n2 : ¬ K = 47 := by rcases hK with e | e <;> rw [e] <;> decide
  simp only [if_neg n1, if_neg n2]
  rcases hK with e | e
  · simp only [if_pos e]
    by_cases g1 : de = 0
    · rw [if_pos g1]
      by_cases g2 : ir = 0
      · rw [if_pos g2]; try rfl
      · rw [if_neg g2]; try rfl
    · rw [if_neg g1]; try rfl
  · have n : ¬ K = 43 := by rw [e]; decide
    simp only [if_neg n, if_pos e]
    by_cases g1 : de = 0
    · rw [if_pos g1]
      by_cases g2 : ir = 0
      · rw [if_pos g2]; try rfl
      · rw [if_neg g2]; try rfl
    · rw [if_neg g1]; try rfl
set_option maxHeartbeats 2000000 in
theorem s_close {C : CT} {n : Nat} {de be ir xa xk xp : Int32} {xv : Int64} {xw : Int32} {D : DT} {xd xo : Int32} {yk : Nat → Int32} {yv : Nat → Int64} {yo : Nat → Int32} {A K pl : Int32} {v : Int64} {w : Int32} (hN : f_Model_next C.1 xa xv xw C.2.2.2.2.2.2.2.1 = (A, K, pl, v, w)) (hK : K = 41) (hd : ¬ de = 0) (hd2 : ¬ de ≤ 0) : LR C (n + 1) 3 de be ir xa xk xp xv xw D xd xo yk yv yo = LR C n 3 (de + (-1)) be ir A K pl v w D (f_Model_reduce 1 xd xo yk yv yo).1 ((f_Model_reduce 1 xd xo yk yv yo).2.1 - 1) (f_Model_reduce 1 xd xo yk yv yo).2.2.1 (f_Model_reduce 1 xd xo yk yv yo).2.2.2 yo := by
  unfold LR
  rw [f_Model_read_L50_s]
  simp only [lt_, hN, if_true]
  rw [if_neg (show ¬ (3 : Int32) = 0 by decide), if_neg (show ¬ (3 : Int32) = 1 by decide), if_neg (show ¬ (3 : Int32) = 2 by decide)]
  have n1 : ¬ K = 42 := by rw [hK]; decide
  have n2 : ¬ K = 47 := by rw [hK]; decide
  have n3 : ¬ K = 43 := by rw [hK]; decide
  have n4 : ¬ K = 45 := by rw [hK]; decide
  simp only [if_neg n1, if_neg n2, if_neg n3, if_neg n4]
  rw [if_neg hd, if_pos hK, if_neg hd2]
  try rfl
set_option maxHeartbeats 2000000 in
theorem s_cmp {C : CT} {n : Nat} {de be ir xa xk xp : Int32} {xv : Int64} {xw : Int32} {D : DT} {xd xo : Int32} {yk : Nat → Int32} {yv : Nat → Int64} {yo : Nat → Int32} {A K pl : Int32} {v : Int64} {w : Int32} (hN : f_Model_next C.1 xa xv xw C.2.2.2.2.2.2.2.1 = (A, K, pl, v, w)) (hd : de = 0) (hi : ir = 0) (n1 : ¬ K = 42) (n2 : ¬ K = 47) (n3 : ¬ K = 43) (n4 : ¬ K = 45) (hc : ¬ f_Model_compares K = 0) : LR C (n + 1) 3 de be ir xa xk xp xv xw D xd xo yk yv yo = LR C n 2 de 1 1 A K pl v w (D.1, D.2.1, D.2.2.1, D.2.2.2.1, D.2.2.2.2.1, upd D.2.2.2.2.2.1 D.2.1.toNatClampNeg K, D.2.2.2.2.2.2.1, upd D.2.2.2.2.2.2.2.1 D.2.1.toNatClampNeg (f_Model_reduce 1 xd xo yk yv yo).1, D.2.2.2.2.2.2.2.2) (f_Model_reduce 1 xd xo yk yv yo).1 (f_Model_reduce 1 xd xo yk yv yo).2.1 (f_Model_reduce 1 xd xo yk yv yo).2.2.1 (f_Model_reduce 1 xd xo yk yv yo).2.2.2 yo := by
  unfold LR
  rw [f_Model_read_L50_s]
  simp only [lt_, hN, if_true]
  rw [if_neg (show ¬ (3 : Int32) = 0 by decide), if_neg (show ¬ (3 : Int32) = 1 by decide), if_neg (show ¬ (3 : Int32) = 2 by decide)]
  simp only [if_neg n1, if_neg n2, if_neg n3, if_neg n4]
  rw [if_pos hd, if_pos hi]
  by_cases g : K = 41
  · rw [if_pos g, if_neg hc]
    try rfl
  · rw [if_neg g, if_neg hc]
    try rfl
set_option maxHeartbeats 2000000 in
theorem s_exc {C : CT} {n : Nat} {de be ir xa xk xp : Int32} {xv : Int64} {xw : Int32} {D : DT} {xd xo : Int32} {yk : Nat → Int32} {yv : Nat → Int64} {yo : Nat → Int32} {A K pl : Int32} {v : Int64} {w : Int32} (hN : f_Model_next C.1 xa xv xw C.2.2.2.2.2.2.2.1 = (A, K, pl, v, w)) (hd : de = 0) (hi : ¬ ir = 0) (hK : K = 33) : LR C (n + 1) 3 de be ir xa xk xp xv xw D xd xo yk yv yo = LR C n 2 de 1 0 A K pl v w (D.1, D.2.1 + 1, D.2.2.1, D.2.2.2.1, D.2.2.2.2.1, D.2.2.2.2.2.1, upd D.2.2.2.2.2.2.1 (D.2.1 + 1).toNatClampNeg (f_Model_reduce 1 xd xo yk yv yo).1, D.2.2.2.2.2.2.2.1, upd D.2.2.2.2.2.2.2.2 D.2.1.toNatClampNeg (f_Model_reduce 1 xd xo yk yv yo).1) (f_Model_reduce 1 xd xo yk yv yo).1 (f_Model_reduce 1 xd xo yk yv yo).2.1 (f_Model_reduce 1 xd xo yk yv yo).2.2.1 (f_Model_reduce 1 xd xo yk yv yo).2.2.2 yo := by
  unfold LR
  rw [f_Model_read_L50_s]
  simp only [lt_, hN, if_true]
  rw [if_neg (show ¬ (3 : Int32) = 0 by decide), if_neg (show ¬ (3 : Int32) = 1 by decide), if_neg (show ¬ (3 : Int32) = 2 by decide)]
  have n1 : ¬ K = 42 := by rw [hK]; decide
  have n2 : ¬ K = 47 := by rw [hK]; decide
  have n3 : ¬ K = 43 := by rw [hK]; decide
  have n4 : ¬ K = 45 := by rw [hK]; decide
  have n5 : ¬ K = 41 := by rw [hK]; decide
  have n6 : f_Model_compares K = 0 := by rw [hK]; decide
  simp only [if_neg n1, if_neg n2, if_neg n3, if_neg n4]
  rw [if_pos hd, if_neg hi, if_neg n5, if_pos n6]
  rw [if_pos hK]
  try rfl
set_option maxHeartbeats 2000000 in
theorem s_at {C : CT} {n : Nat} {de be ir xa xk xp : Int32} {xv : Int64} {xw : Int32} {D : DT} {xd xo : Int32} {yk : Nat → Int32} {yv : Nat → Int64} {yo : Nat → Int32} {A K pl : Int32} {v : Int64} {w : Int32} (hN : f_Model_next C.1 xa xv xw C.2.2.2.2.2.2.2.1 = (A, K, pl, v, w)) (hd : de = 0) (hi : ¬ ir = 0) (hK : K = 64) : LR C (n + 1) 3 de be ir xa xk xp xv xw D xd xo yk yv yo = LR C n 4 de 1 0 A K pl v w (D.1, D.2.1 + 1, D.2.2.1, D.2.2.2.1, D.2.2.2.2.1, D.2.2.2.2.2.1, upd D.2.2.2.2.2.2.1 (D.2.1 + 1).toNatClampNeg (f_Model_reduce 1 xd xo yk yv yo).1, D.2.2.2.2.2.2.2.1, upd D.2.2.2.2.2.2.2.2 D.2.1.toNatClampNeg (f_Model_reduce 1 xd xo yk yv yo).1) (f_Model_reduce 1 xd xo yk yv yo).1 (f_Model_reduce 1 xd xo yk yv yo).2.1 (f_Model_reduce 1 xd xo yk yv yo).2.2.1 (f_Model_reduce 1 xd xo yk yv yo).2.2.2 yo := by
  unfold LR
  rw [f_Model_read_L50_s]
  simp only [lt_, hN, if_true]
  rw [if_neg (show ¬ (3 : Int32) = 0 by decide), if_neg (show ¬ (3 : Int32) = 1 by decide), if_neg (show ¬ (3 : Int32) = 2 by decide)]
  have n1 : ¬ K = 42 := by rw [hK]; decide
  have n2 : ¬ K = 47 := by rw [hK]; decide
  have n3 : ¬ K = 43 := by rw [hK]; decide
  have n4 : ¬ K = 45 := by rw [hK]; decide
  have n5 : ¬ K = 41 := by rw [hK]; decide
  have n6 : f_Model_compares K = 0 := by rw [hK]; decide
  simp only [if_neg n1, if_neg n2, if_neg n3, if_neg n4]
  rw [if_pos hd, if_neg hi, if_neg n5, if_pos n6]
  rw [if_neg (show ¬ K = 33 by rw [hK]; decide), if_pos hK]
  try rfl
set_option maxHeartbeats 2000000 in
theorem s_semi {C : CT} {n : Nat} {de be ir xa xk xp : Int32} {xv : Int64} {xw : Int32} {D : DT} {xd xo : Int32} {yk : Nat → Int32} {yv : Nat → Int64} {yo : Nat → Int32} {A K pl : Int32} {v : Int64} {w : Int32} (hN : f_Model_next C.1 xa xv xw C.2.2.2.2.2.2.2.1 = (A, K, pl, v, w)) (hd : de = 0) (hi : ¬ ir = 0) (hK : K = 59) : LR C (n + 1) 3 de be ir xa xk xp xv xw D xd xo yk yv yo = LR C n 0 de 1 0 A K pl v w (D.1, D.2.1 + 1, D.2.2.1, D.2.2.2.1, D.2.2.2.2.1, D.2.2.2.2.2.1, upd D.2.2.2.2.2.2.1 (D.2.1 + 1).toNatClampNeg (f_Model_reduce 1 xd xo yk yv yo).1, D.2.2.2.2.2.2.2.1, upd D.2.2.2.2.2.2.2.2 D.2.1.toNatClampNeg (f_Model_reduce 1 xd xo yk yv yo).1) (f_Model_reduce 1 xd xo yk yv yo).1 (f_Model_reduce 1 xd xo yk yv yo).2.1 (f_Model_reduce 1 xd xo yk yv yo).2.2.1 (f_Model_reduce 1 xd xo yk yv yo).2.2.2 yo := by
  unfold LR
  rw [f_Model_read_L50_s]
  simp only [lt_, hN, if_true]
  rw [if_neg (show ¬ (3 : Int32) = 0 by decide), if_neg (show ¬ (3 : Int32) = 1 by decide), if_neg (show ¬ (3 : Int32) = 2 by decide)]
  have n1 : ¬ K = 42 := by rw [hK]; decide
  have n2 : ¬ K = 47 := by rw [hK]; decide
  have n3 : ¬ K = 43 := by rw [hK]; decide
  have n4 : ¬ K = 45 := by rw [hK]; decide
  have n5 : ¬ K = 41 := by rw [hK]; decide
  have n6 : f_Model_compares K = 0 := by rw [hK]; decide
  simp only [if_neg n1, if_neg n2, if_neg n3, if_neg n4]
  rw [if_pos hd, if_neg hi, if_neg n5, if_pos n6]
  rw [if_neg (show ¬ K = 33 by rw [hK]; decide), if_neg (show ¬ K = 64 by rw [hK]; decide), if_pos hK]
  try rfl
set_option maxHeartbeats 2000000 in
theorem s_end {C : CT} {n : Nat} {de be ir xa xk xp : Int32} {xv : Int64} {xw : Int32} {D : DT} {xd xo : Int32} {yk : Nat → Int32} {yv : Nat → Int64} {yo : Nat → Int32} {A K pl : Int32} {v : Int64} {w : Int32} (hN : f_Model_next C.1 xa xv xw C.2.2.2.2.2.2.2.1 = (A, K, pl, v, w)) (hd : de = 0) (hi : ¬ ir = 0) (hK : K = 0) : LR C (n + 1) 3 de be ir xa xk xp xv xw D xd xo yk yv yo = TA C (D.1, D.2.1 + 1, D.2.2.1, D.2.2.2.1, D.2.2.2.2.1, D.2.2.2.2.2.1, upd D.2.2.2.2.2.2.1 (D.2.1 + 1).toNatClampNeg (f_Model_reduce 1 xd xo yk yv yo).1, D.2.2.2.2.2.2.2.1, upd D.2.2.2.2.2.2.2.2 D.2.1.toNatClampNeg (f_Model_reduce 1 xd xo yk yv yo).1) A K pl v w (f_Model_reduce 1 xd xo yk yv yo).1 (f_Model_reduce 1 xd xo yk yv yo).2.1 (f_Model_reduce 1 xd xo yk yv yo).2.2.1 (f_Model_reduce 1 xd xo yk yv yo).2.2.2 yo := by
  unfold LR
  rw [f_Model_read_L50_s]
  simp only [lt_, hN, if_true]
  rw [if_neg (show ¬ (3 : Int32) = 0 by decide), if_neg (show ¬ (3 : Int32) = 1 by decide), if_neg (show ¬ (3 : Int32) = 2 by decide)]
  have n1 : ¬ K = 42 := by rw [hK]; decide
  have n2 : ¬ K = 47 := by rw [hK]; decide
  have n3 : ¬ K = 43 := by rw [hK]; decide
  have n4 : ¬ K = 45 := by rw [hK]; decide
  have n5 : ¬ K = 41 := by rw [hK]; decide
  have n6 : f_Model_compares K = 0 := by rw [hK]; decide
  simp only [if_neg n1, if_neg n2, if_neg n3, if_neg n4]
  rw [if_pos hd, if_neg hi, if_neg n5, if_pos n6]
  rw [if_neg (show ¬ K = 33 by rw [hK]; decide), if_neg (show ¬ K = 64 by rw [hK]; decide), if_neg (show ¬ K = 59 by rw [hK]; decide), if_pos hK]
  try rfl
set_option maxHeartbeats 2000000 in
theorem s_bbad {C : CT} {n : Nat} {de be ir xa xk xp : Int32} {xv : Int64} {xw : Int32} {D : DT} {xd xo : Int32} {yk : Nat → Int32} {yv : Nat → Int64} {yo : Nat → Int32} {A K pl : Int32} {v : Int64} {w : Int32} (hN : f_Model_next C.1 xa xv xw C.2.2.2.2.2.2.2.1 = (A, K, pl, v, w)) (n1 : ¬ K = 42) (n2 : ¬ K = 47) (n3 : ¬ K = 43) (n4 : ¬ K = 45) (h5 : ¬ (K = 41 ∧ ¬ de = 0)) (hd2 : 0 ≤ de.toInt) (h6 : de = 0 → ir = 0 → f_Model_compares K = 0) (h7 : de = 0 → ¬ ir = 0 → ¬ K = 33 ∧ ¬ K = 64 ∧ ¬ K = 59 ∧ ¬ K = 0) : LR C (n + 1) 3 de be ir xa xk xp xv xw D xd xo yk yv yo = FA C D A K pl v w xd xo yk yv yo := by
  unfold LR
  rw [f_Model_read_L50_s]
  simp only [lt_, hN, if_true]
  rw [if_neg (show ¬ (3 : Int32) = 0 by decide), if_neg (show ¬ (3 : Int32) = 1 by decide), if_neg (show ¬ (3 : Int32) = 2 by decide)]
  simp only [if_neg n1, if_neg n2, if_neg n3, if_neg n4]
  by_cases g1 : de = 0
  · rw [if_pos g1]
    by_cases g2 : ir = 0
    · rw [if_pos g2, if_pos (h6 g1 g2)]
      by_cases g3 : K = 41
      · rw [if_pos g3]; try rfl
      · rw [if_neg g3]; try rfl
    · rw [if_neg g2]
      obtain ⟨a, b, e, f⟩ := h7 g1 g2
      rw [if_neg a, if_neg b, if_neg e, if_neg f]
      repeat' split
      all_goals rfl
  · rw [if_neg g1, if_neg (show ¬ K = 41 from fun q => h5 ⟨q, g1⟩)]
    repeat' split
    all_goals rfl
set_option maxHeartbeats 2000000 in
theorem s_rule {C : CT} {n : Nat} {de be ir xa xk xp : Int32} {xv : Int64} {xw : Int32} {D : DT} {xd xo : Int32} {yk : Nat → Int32} {yv : Nat → Int64} {yo : Nat → Int32} {A K pl : Int32} {v : Int64} {w : Int32} (hN : f_Model_next C.1 xa xv xw C.2.2.2.2.2.2.2.1 = (A, K, pl, v, w)) (hK : K = 2) (ht : f_Model_isTaken v D.1 D.2.2.1 = 0) (hr : ¬ 12 ≤ D.1) : LR C (n + 1) 0 de be ir xa xk xp xv xw D xd xo yk yv yo = LR C n 1 de be ir A K pl v w (D.1 + 1, D.2.1, vp_updL D.2.2.1 D.1.toNatClampNeg v, vp_updL D.2.2.2.1 D.1.toNatClampNeg 0, upd D.2.2.2.2.1 D.1.toNatClampNeg D.2.1, D.2.2.2.2.2.1, D.2.2.2.2.2.2.1, D.2.2.2.2.2.2.2.1, D.2.2.2.2.2.2.2.2) xd xo yk yv yo := by
  unfold LR
  rw [f_Model_read_L50_s]
  simp only [lt_, hN, if_true]
  skip
  rw [if_neg (show ¬ K = 0 by rw [hK]; decide), if_pos hK, if_pos ht, if_neg hr]
  try rfl
set_option maxHeartbeats 2000000 in
theorem s_rbad {C : CT} {n : Nat} {de be ir xa xk xp : Int32} {xv : Int64} {xw : Int32} {D : DT} {xd xo : Int32} {yk : Nat → Int32} {yv : Nat → Int64} {yo : Nat → Int32} {A K pl : Int32} {v : Int64} {w : Int32} (hN : f_Model_next C.1 xa xv xw C.2.2.2.2.2.2.2.1 = (A, K, pl, v, w)) (h0 : K = 0 → D.1 ≤ 0) (h1 : K = 2 → f_Model_isTaken v D.1 D.2.2.1 = 0 → 12 ≤ D.1) : LR C (n + 1) 0 de be ir xa xk xp xv xw D xd xo yk yv yo = FA C D A K pl v w xd xo yk yv yo := by
  unfold LR
  rw [f_Model_read_L50_s]
  simp only [lt_, hN, if_true]
  skip
  by_cases g : K = 0
  · rw [if_pos g, if_pos (h0 g)]; try rfl
  · rw [if_neg g]
    by_cases g2 : K = 2
    · rw [if_pos g2]
      by_cases g3 : f_Model_isTaken v D.1 D.2.2.1 = 0
      · rw [if_pos g3, if_pos (h1 g2 g3)]; try rfl
      · rw [if_neg g3]; try rfl
    · rw [if_neg g2]; try rfl
set_option maxHeartbeats 2000000 in
theorem s_rend {C : CT} {n : Nat} {de be ir xa xk xp : Int32} {xv : Int64} {xw : Int32} {D : DT} {xd xo : Int32} {yk : Nat → Int32} {yv : Nat → Int64} {yo : Nat → Int32} {A K pl : Int32} {v : Int64} {w : Int32} (hN : f_Model_next C.1 xa xv xw C.2.2.2.2.2.2.2.1 = (A, K, pl, v, w)) (hK : K = 0) (hr : ¬ D.1 ≤ 0) : LR C (n + 1) 0 de be ir xa xk xp xv xw D xd xo yk yv yo = TA C D A K pl v w xd xo yk yv yo := by
  unfold LR
  rw [f_Model_read_L50_s]
  simp only [lt_, hN, if_true]
  skip
  rw [if_pos hK, if_neg hr]
  try rfl
set_option maxHeartbeats 2000000 in
theorem s_col {C : CT} {n : Nat} {de be ir xa xk xp : Int32} {xv : Int64} {xw : Int32} {D : DT} {xd xo : Int32} {yk : Nat → Int32} {yv : Nat → Int64} {yo : Nat → Int32} {A K pl : Int32} {v : Int64} {w : Int32} (hN : f_Model_next C.1 xa xv xw C.2.2.2.2.2.2.2.1 = (A, K, pl, v, w)) (hK : K = 58) : LR C (n + 1) 1 de be ir xa xk xp xv xw D xd xo yk yv yo = LR C n 2 de 1 0 A K pl v w (D.1, D.2.1, D.2.2.1, D.2.2.2.1, D.2.2.2.2.1, D.2.2.2.2.2.1, upd D.2.2.2.2.2.2.1 D.2.1.toNatClampNeg xd, D.2.2.2.2.2.2.2.1, D.2.2.2.2.2.2.2.2) xd xo yk yv yo := by
  unfold LR
  rw [f_Model_read_L50_s]
  simp only [lt_, hN, if_true]
  rw [if_neg (show ¬ (1 : Int32) = 0 by decide)]
  rw [if_pos hK]
  try rfl
set_option maxHeartbeats 2000000 in
theorem s_cbad {C : CT} {n : Nat} {de be ir xa xk xp : Int32} {xv : Int64} {xw : Int32} {D : DT} {xd xo : Int32} {yk : Nat → Int32} {yv : Nat → Int64} {yo : Nat → Int32} {A K pl : Int32} {v : Int64} {w : Int32} (hN : f_Model_next C.1 xa xv xw C.2.2.2.2.2.2.2.1 = (A, K, pl, v, w)) (hK : ¬ K = 58) : LR C (n + 1) 1 de be ir xa xk xp xv xw D xd xo yk yv yo = FA C (D.1, D.2.1, D.2.2.1, D.2.2.2.1, D.2.2.2.2.1, D.2.2.2.2.2.1, upd D.2.2.2.2.2.2.1 D.2.1.toNatClampNeg xd, D.2.2.2.2.2.2.2.1, D.2.2.2.2.2.2.2.2) A K pl v w xd xo yk yv yo := by
  unfold LR
  rw [f_Model_read_L50_s]
  simp only [lt_, hN, if_true]
  rw [if_neg (show ¬ (1 : Int32) = 0 by decide)]
  rw [if_neg hK]
  try rfl
set_option maxHeartbeats 2000000 in
theorem s_day {C : CT} {n : Nat} {de be ir xa xk xp : Int32} {xv : Int64} {xw : Int32} {D : DT} {xd xo : Int32} {yk : Nat → Int32} {yv : Nat → Int64} {yo : Nat → Int32} {A K pl : Int32} {v : Int64} {w : Int32} (hN : f_Model_next C.1 xa xv xw C.2.2.2.2.2.2.2.1 = (A, K, pl, v, w)) (hK : K = 1) : LR C (n + 1) 4 de be ir xa xk xp xv xw D xd xo yk yv yo = LR C n 5 de be ir A K pl v w (D.1, D.2.1, D.2.2.1, vp_updL D.2.2.2.1 (D.1 - 1).toNatClampNeg v, D.2.2.2.2.1, D.2.2.2.2.2.1, D.2.2.2.2.2.2.1, D.2.2.2.2.2.2.2.1, D.2.2.2.2.2.2.2.2) xd xo yk yv yo := by
  unfold LR
  rw [f_Model_read_L50_s]
  simp only [lt_, hN, if_true]
  rw [if_neg (show ¬ (4 : Int32) = 0 by decide), if_neg (show ¬ (4 : Int32) = 1 by decide), if_neg (show ¬ (4 : Int32) = 2 by decide), if_neg (show ¬ (4 : Int32) = 3 by decide)]
  rw [if_pos hK]
  try rfl
set_option maxHeartbeats 2000000 in
theorem s_dbad {C : CT} {n : Nat} {de be ir xa xk xp : Int32} {xv : Int64} {xw : Int32} {D : DT} {xd xo : Int32} {yk : Nat → Int32} {yv : Nat → Int64} {yo : Nat → Int32} {A K pl : Int32} {v : Int64} {w : Int32} (hN : f_Model_next C.1 xa xv xw C.2.2.2.2.2.2.2.1 = (A, K, pl, v, w)) (hK : ¬ K = 1) : LR C (n + 1) 4 de be ir xa xk xp xv xw D xd xo yk yv yo = FA C (D.1, D.2.1, D.2.2.1, vp_updL D.2.2.2.1 (D.1 - 1).toNatClampNeg v, D.2.2.2.2.1, D.2.2.2.2.2.1, D.2.2.2.2.2.2.1, D.2.2.2.2.2.2.2.1, D.2.2.2.2.2.2.2.2) A K pl v w xd xo yk yv yo := by
  unfold LR
  rw [f_Model_read_L50_s]
  simp only [lt_, hN, if_true]
  rw [if_neg (show ¬ (4 : Int32) = 0 by decide), if_neg (show ¬ (4 : Int32) = 1 by decide), if_neg (show ¬ (4 : Int32) = 2 by decide), if_neg (show ¬ (4 : Int32) = 3 by decide)]
  rw [if_neg hK]
  try rfl
set_option maxHeartbeats 2000000 in
theorem s_next {C : CT} {n : Nat} {de be ir xa xk xp : Int32} {xv : Int64} {xw : Int32} {D : DT} {xd xo : Int32} {yk : Nat → Int32} {yv : Nat → Int64} {yo : Nat → Int32} {A K pl : Int32} {v : Int64} {w : Int32} (hN : f_Model_next C.1 xa xv xw C.2.2.2.2.2.2.2.1 = (A, K, pl, v, w)) (hK : K = 59) : LR C (n + 1) 5 de be ir xa xk xp xv xw D xd xo yk yv yo = LR C n 0 de be ir A K pl v w D xd xo yk yv yo := by
  unfold LR
  rw [f_Model_read_L50_s]
  simp only [lt_, hN, if_true]
  rw [if_neg (show ¬ (5 : Int32) = 0 by decide), if_neg (show ¬ (5 : Int32) = 1 by decide), if_neg (show ¬ (5 : Int32) = 2 by decide), if_neg (show ¬ (5 : Int32) = 3 by decide), if_neg (show ¬ (5 : Int32) = 4 by decide)]
  rw [if_pos hK]
  try rfl
set_option maxHeartbeats 2000000 in
theorem s_fin {C : CT} {n : Nat} {de be ir xa xk xp : Int32} {xv : Int64} {xw : Int32} {D : DT} {xd xo : Int32} {yk : Nat → Int32} {yv : Nat → Int64} {yo : Nat → Int32} {A K pl : Int32} {v : Int64} {w : Int32} (hN : f_Model_next C.1 xa xv xw C.2.2.2.2.2.2.2.1 = (A, K, pl, v, w)) (hK : K = 0) : LR C (n + 1) 5 de be ir xa xk xp xv xw D xd xo yk yv yo = TA C D A K pl v w xd xo yk yv yo := by
  unfold LR
  rw [f_Model_read_L50_s]
  simp only [lt_, hN, if_true]
  rw [if_neg (show ¬ (5 : Int32) = 0 by decide), if_neg (show ¬ (5 : Int32) = 1 by decide), if_neg (show ¬ (5 : Int32) = 2 by decide), if_neg (show ¬ (5 : Int32) = 3 by decide), if_neg (show ¬ (5 : Int32) = 4 by decide)]
  rw [if_neg (show ¬ K = 59 by rw [hK]; decide), if_pos hK]
  try rfl
set_option maxHeartbeats 2000000 in
theorem s_ebad {C : CT} {n : Nat} {de be ir xa xk xp : Int32} {xv : Int64} {xw : Int32} {D : DT} {xd xo : Int32} {yk : Nat → Int32} {yv : Nat → Int64} {yo : Nat → Int32} {A K pl : Int32} {v : Int64} {w : Int32} (hN : f_Model_next C.1 xa xv xw C.2.2.2.2.2.2.2.1 = (A, K, pl, v, w)) (h1 : ¬ K = 59) (h2 : ¬ K = 0) : LR C (n + 1) 5 de be ir xa xk xp xv xw D xd xo yk yv yo = FA C D A K pl v w xd xo yk yv yo := by
  unfold LR
  rw [f_Model_read_L50_s]
  simp only [lt_, hN, if_true]
  rw [if_neg (show ¬ (5 : Int32) = 0 by decide), if_neg (show ¬ (5 : Int32) = 1 by decide), if_neg (show ¬ (5 : Int32) = 2 by decide), if_neg (show ¬ (5 : Int32) = 3 by decide), if_neg (show ¬ (5 : Int32) = 4 by decide)]
  rw [if_neg h1, if_neg h2]
  try rfl
