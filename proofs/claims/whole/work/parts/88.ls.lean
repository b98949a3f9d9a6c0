/-! the law's helpers -/
theorem ls_say {tl ml : Int32} {tf mt : Nat → Int32} (hR : RT tl tf ml mt) {wd : Int64} {qf : Nat → Int64} {z1 : Int32 × Int32 × (Nat → Int32) × (Nat → Int64)} {z2 : Int32 × Int32 × Int32 × (Nat → Int32)} (h1 : z1 = f_Law_say wd tl tf qf) (h2 : z2 = f_Model_say wd ml mt) : z2.2.1 = z1.1 ∧ (z1.1 = 0 → lg_cmp (z1.2.2.2 (0 : Int32).toNatClampNeg) z2.1.toInt64 = 0) ∧ RT z1.2.1 z1.2.2.1 z2.2.2.1 z2.2.2.2 := by
  obtain ⟨x, y, hx, hy, e1, e2, e3, e4⟩ := sy_eq wd hR
  have h2' : z2 = y := h2.trans hy.symm
  subst h2'
  have h1' : z1 = (if x.1 = 0 then (0, x.2.2.1, x.2.2.2, vp_updL qf (0 : Int32).toNatClampNeg x.2.1.toInt64) else (if x.1 = 1 then (1, x.2.2.1, x.2.2.2, qf) else (2, x.2.2.1, x.2.2.2, qf))) := by
    rw [h1]
    unfold f_Law_say
    simp only [lt_]
    rw [← hx]
  by_cases hz : x.1 = 0
  · rw [if_pos hz] at h1'
    subst h1'
    refine ⟨e1.symm.trans hz, fun _ => ?_, e4⟩
    show lg_cmp (vp_updL qf (0 : Int32).toNatClampNeg x.2.1.toInt64 (0 : Int32).toNatClampNeg) z2.1.toInt64 = 0
    rw [up_s, e3 hz]
    exact lc_z.mpr rfl
  · rw [if_neg hz] at h1'
    rcases e2 with q | q | q
    · exact absurd q hz
    · rw [if_pos q] at h1'
      subst h1'
      exact ⟨e1.symm.trans q, fun q9 => absurd q9 (show ¬ (1 : Int32) = 0 by decide), e4⟩
    · rw [if_neg (by rw [q]; decide)] at h1'
      subst h1'
      exact ⟨e1.symm.trans q, fun q9 => absurd q9 (show ¬ (2 : Int32) = 0 by decide), e4⟩
theorem ls_trim {tl ml : Int32} {tf mt : Nat → Int32} (hR : RT tl tf ml mt) {n_ : Int32} {qf : Nat → Int64} {z1 : Int32 × Int32 × (Nat → Int64)} {z2 : Int32 × Int32 × Int32} (h1 : z1 = f_Law_trim n_ tl qf) (h2 : z2 = f_Model_trim n_ ml) : z2.2.1 = z1.1 ∧ (z1.1 = 0 → lg_cmp (z1.2.2 (0 : Int32).toNatClampNeg) z2.1.toInt64 = 0) ∧ RT z1.2.1 tf z2.2.2 mt := by
  obtain ⟨x, y, hx, hy, e1, e2, e3, e4⟩ := tr_eq n_ hR
  have h2' : z2 = y := h2.trans hy.symm
  subst h2'
  have h1' : z1 = (if x.1 = 0 then (0, x.2.2, vp_updL qf (0 : Int32).toNatClampNeg x.2.1.toInt64) else (1, x.2.2, qf)) := by
    rw [h1]
    unfold f_Law_trim
    simp only [lt_]
    rw [← hx]
  by_cases hz : x.1 = 0
  · rw [if_pos hz] at h1'
    subst h1'
    refine ⟨e1.symm.trans hz, fun _ => ?_, e4⟩
    show lg_cmp (vp_updL qf (0 : Int32).toNatClampNeg x.2.1.toInt64 (0 : Int32).toNatClampNeg) z2.1.toInt64 = 0
    rw [up_s, e3 hz]
    exact lc_z.mpr rfl
  · rw [if_neg hz] at h1'
    subst h1'
    rcases e2 with q | q
    · exact absurd q hz
    · exact ⟨e1.symm.trans q, fun q9 => absurd q9 (show ¬ (1 : Int32) = 0 by decide), e4⟩
theorem ls_count {tl ml rc rx cc cl fz fc : Int32} (q1 : tl = ml) (q2 : rc = rx) (q3 : cc = cl) (q4 : fz = fc) {wh : Int32} {qf : Nat → Int64} {z1 : Int32 × (Nat → Int64)} {z2 : Int32 × Int32} (h1 : z1 = f_Law_count wh tl fz rc cc qf) (h2 : z2 = f_Model_count wh ml rx cl fc) : z2.2 = z1.1 ∧ (z1.1 = 0 → lg_cmp (z1.2 (0 : Int32).toNatClampNeg) z2.1.toInt64 = 0) := by
  obtain ⟨x, y, hx, hy, e1, e2, e3⟩ := co_eq wh q1 q2 q3 q4
  have h2' : z2 = y := h2.trans hy.symm
  subst h2'
  have h1' : z1 = (if x.1 = 0 then (0, vp_updL qf (0 : Int32).toNatClampNeg x.2.toInt64) else (1, qf)) := by
    rw [h1]
    unfold f_Law_count
    simp only [lt_]
    rw [← hx]
  by_cases hz : x.1 = 0
  · rw [if_pos hz] at h1'
    subst h1'
    refine ⟨e1.symm.trans hz, fun _ => ?_⟩
    show lg_cmp (vp_updL qf (0 : Int32).toNatClampNeg x.2.toInt64 (0 : Int32).toNatClampNeg) z2.1.toInt64 = 0
    rw [up_s, e3 hz]
    exact lc_z.mpr rfl
  · rw [if_neg hz] at h1'
    subst h1'
    rcases e2 with q | q
    · exact absurd q hz
    · exact ⟨e1.symm.trans q, fun q9 => absurd q9 (show ¬ (1 : Int32) = 0 by decide)⟩
theorem ls_rule {rc cc : Int32} {bn bd : Nat → Int64} {bc bs bl br bk : Nat → Int32} {bw : Nat → Int64} {rx cl : Int32} {nn dd : Nat → Int64} {fi sg lf rf ce sk : Nat → Int32} {sv : Nat → Int64} (hB : RB rc cc bn bd bc bs bl br bk bw rx cl nn dd fi sg lf rf ce sk sv) {nm : Int64} {qf : Nat → Int64} {z1 : Int32 × (Nat → Int64)} {z2 : Int32 × Int32} (h1 : z1 = f_Law_rule nm rc bn qf) (h2 : z2 = f_Model_rule nm rx nn) : z2.2 = z1.1 ∧ (z1.1 = 0 → lg_cmp (z1.2 (0 : Int32).toNatClampNeg) z2.1.toInt64 = 0) := by
  obtain ⟨x, y, hx, hy, e1, e2, e3⟩ := ru_eq nm hB
  have h2' : z2 = y := h2.trans hy.symm
  subst h2'
  have h1' : z1 = (if x.1 = 0 then (0, vp_updL qf (0 : Int32).toNatClampNeg x.2.toInt64) else (1, qf)) := by
    rw [h1]
    unfold f_Law_rule
    simp only [lt_]
    rw [← hx]
  by_cases hz : x.1 = 0
  · rw [if_pos hz] at h1'
    subst h1'
    refine ⟨e1.symm.trans hz, fun _ => ?_⟩
    show lg_cmp (vp_updL qf (0 : Int32).toNatClampNeg x.2.toInt64 (0 : Int32).toNatClampNeg) z2.1.toInt64 = 0
    rw [up_s, e3 hz]
    exact lc_z.mpr rfl
  · rw [if_neg hz] at h1'
    subst h1'
    rcases e2 with q | q
    · exact absurd q hz
    · exact ⟨e1.symm.trans q, fun q9 => absurd q9 (show ¬ (1 : Int32) = 0 by decide)⟩
theorem ls_told {as_ ad rc aq da rx : Int32} {an re : Nat → Int64} {sx : Nat → Int32} (ha : RA as_ ad an rc aq da sx re) (er : rc = rx) (r0 : 0 ≤ rc.toInt) (r12 : rc.toInt ≤ 12) {nu wh : Int32} {qf : Nat → Int64} {z1 : Int32 × (Nat → Int64)} {z2 : Int64 × Int32} (h1 : z1 = f_Law_told nu wh as_ rc an qf) (h2 : z2 = f_Model_told nu wh rx aq sx re) : z2.2 = z1.1 ∧ (z1.1 = 0 → lg_cmp (z1.2 (0 : Int32).toNatClampNeg) z2.1 = 0) := by
  obtain ⟨x, y, hx, hy, e1, e2, e3⟩ := to_eq nu wh ha er r0 r12
  have h2' : z2 = y := h2.trans hy.symm
  subst h2'
  have h1' : z1 = (if x.1 = 0 then (0, vp_updL qf (0 : Int32).toNatClampNeg x.2) else (if x.1 = 1 then (1, qf) else (2, qf))) := by
    rw [h1]
    unfold f_Law_told
    simp only [lt_]
    rw [← hx]
  by_cases hz : x.1 = 0
  · rw [if_pos hz] at h1'
    subst h1'
    refine ⟨e1.symm.trans hz, fun _ => ?_⟩
    show lg_cmp (vp_updL qf (0 : Int32).toNatClampNeg x.2 (0 : Int32).toNatClampNeg) z2.1 = 0
    rw [up_s, e3 hz]
    exact lc_z.mpr rfl
  · rw [if_neg hz] at h1'
    rcases e2 with q | q | q
    · exact absurd q hz
    · rw [if_pos q] at h1'
      subst h1'
      exact ⟨e1.symm.trans q, fun q9 => absurd q9 (show ¬ (1 : Int32) = 0 by decide)⟩
    · rw [if_neg (by rw [q]; decide)] at h1'
      subst h1'
      exact ⟨e1.symm.trans q, fun q9 => absurd q9 (show ¬ (2 : Int32) = 0 by decide)⟩
theorem ls_broken {as_ ad rc aq da rx : Int32} {an re : Nat → Int64} {sx : Nat → Int32} (ha : RA as_ ad an rc aq da sx re) (er : rc = rx) (r0 : 0 ≤ rc.toInt) (r12 : rc.toInt ≤ 12) {k_ : Int32} {qf : Nat → Int64} {z1 : Int32 × (Nat → Int64)} {z2 : Int32 × Int32} (h1 : z1 = f_Law_broken k_ as_ an rc qf) (h2 : z2 = f_Model_broken k_ rx aq sx) : z2.2 = z1.1 ∧ (z1.1 = 0 → lg_cmp (z1.2 (0 : Int32).toNatClampNeg) z2.1.toInt64 = 0) := by
  obtain ⟨x, y, hx, hy, e1, e2, e3⟩ := bk_eq k_ ha er r0 r12
  have h2' : z2 = y := h2.trans hy.symm
  subst h2'
  have h1' : z1 = (if x.1 = 0 then (0, vp_updL qf (0 : Int32).toNatClampNeg x.2.toInt64) else (if x.1 = 1 then (1, qf) else (2, qf))) := by
    rw [h1]
    unfold f_Law_broken
    simp only [lt_]
    rw [← hx]
  by_cases hz : x.1 = 0
  · rw [if_pos hz] at h1'
    subst h1'
    refine ⟨e1.symm.trans hz, fun _ => ?_⟩
    show lg_cmp (vp_updL qf (0 : Int32).toNatClampNeg x.2.toInt64 (0 : Int32).toNatClampNeg) z2.1.toInt64 = 0
    rw [up_s, e3 hz]
    exact lc_z.mpr rfl
  · rw [if_neg hz] at h1'
    rcases e2 with q | q | q
    · exact absurd q hz
    · rw [if_pos q] at h1'
      subst h1'
      exact ⟨e1.symm.trans q, fun q9 => absurd q9 (show ¬ (1 : Int32) = 0 by decide)⟩
    · rw [if_neg (by rw [q]; decide)] at h1'
      subst h1'
      exact ⟨e1.symm.trans q, fun q9 => absurd q9 (show ¬ (2 : Int32) = 0 by decide)⟩
theorem ls_forget {fz fc : Int32} {fn gn gv : Nat → Int64} {fv : Nat → Int32} (hF : RF fz fn fv fc gn gv) {nm : Int64} {qf : Nat → Int64} {z1 : Int32 × Int32 × (Nat → Int64) × (Nat → Int32) × (Nat → Int64)} {z2 : Int64 × Int32 × Int32 × (Nat → Int64) × (Nat → Int64)} (h1 : z1 = f_Law_forget nm fz fn fv qf) (h2 : z2 = f_Model_forget nm fc gn gv) : z2.2.1 = z1.1 ∧ (z1.1 = 0 → lg_cmp (z1.2.2.2.2 (0 : Int32).toNatClampNeg) z2.1 = 0) ∧ RF z1.2.1 z1.2.2.1 z1.2.2.2.1 z2.2.2.1 z2.2.2.2.1 z2.2.2.2.2 := by
  obtain ⟨x, y, hx, hy, e1, e2, e3, e4⟩ := fo_eq nm hF
  have h2' : z2 = y := h2.trans hy.symm
  subst h2'
  have h1' : z1 = (if x.1 = 0 then (0, x.2.2.1, x.2.2.2.1, x.2.2.2.2, vp_updL qf (0 : Int32).toNatClampNeg x.2.1) else (1, x.2.2.1, x.2.2.2.1, x.2.2.2.2, qf)) := by
    rw [h1]
    unfold f_Law_forget
    simp only [lt_]
    rw [← hx]
  by_cases hz : x.1 = 0
  · rw [if_pos hz] at h1'
    subst h1'
    refine ⟨e1.symm.trans hz, fun _ => ?_, e4⟩
    show lg_cmp (vp_updL qf (0 : Int32).toNatClampNeg x.2.1 (0 : Int32).toNatClampNeg) z2.1 = 0
    rw [up_s, e3 hz]
    exact lc_z.mpr rfl
  · rw [if_neg hz] at h1'
    subst h1'
    rcases e2 with q | q
    · exact absurd q hz
    · exact ⟨e1.symm.trans q, fun q9 => absurd q9 (show ¬ (1 : Int32) = 0 by decide), e4⟩
theorem ls_fact {fz fc : Int32} {fn gn gv : Nat → Int64} {fv : Nat → Int32} (hF : RF fz fn fv fc gn gv) {nm : Int64} {vl : Int32} {qf : Nat → Int64} {z1 : Int32 × Int32 × (Nat → Int64) × (Nat → Int32) × (Nat → Int64)} {z2 : Int64 × Int32 × Int32 × (Nat → Int64) × (Nat → Int64)} (h1 : z1 = f_Law_fact nm vl fz fn fv qf) (h2 : z2 = f_Model_fact nm vl fc gn gv) : z2.2.1 = z1.1 ∧ (z1.1 = 0 → lg_cmp (z1.2.2.2.2 (0 : Int32).toNatClampNeg) z2.1 = 0) ∧ RF z1.2.1 z1.2.2.1 z1.2.2.2.1 z2.2.2.1 z2.2.2.2.1 z2.2.2.2.2 := by
  obtain ⟨x, y, hx, hy, e1, e2, e3, e4⟩ := fa_eq nm vl hF
  have h2' : z2 = y := h2.trans hy.symm
  subst h2'
  have h1' : z1 = (if x.1 = 0 then (0, x.2.2.1, x.2.2.2.1, x.2.2.2.2, vp_updL qf (0 : Int32).toNatClampNeg x.2.1) else (if x.1 = 1 then (1, x.2.2.1, x.2.2.2.1, x.2.2.2.2, qf) else (2, x.2.2.1, x.2.2.2.1, x.2.2.2.2, qf))) := by
    rw [h1]
    unfold f_Law_fact
    simp only [lt_]
    rw [← hx]
  by_cases hz : x.1 = 0
  · rw [if_pos hz] at h1'
    subst h1'
    refine ⟨e1.symm.trans hz, fun _ => ?_, e4⟩
    show lg_cmp (vp_updL qf (0 : Int32).toNatClampNeg x.2.1 (0 : Int32).toNatClampNeg) z2.1 = 0
    rw [up_s, e3 hz]
    exact lc_z.mpr rfl
  · rw [if_neg hz] at h1'
    rcases e2 with q | q | q
    · exact absurd q hz
    · rw [if_pos q] at h1'
      subst h1'
      exact ⟨e1.symm.trans q, fun q9 => absurd q9 (show ¬ (1 : Int32) = 0 by decide), e4⟩
    · rw [if_neg (by rw [q]; decide)] at h1'
      subst h1'
      exact ⟨e1.symm.trans q, fun q9 => absurd q9 (show ¬ (2 : Int32) = 0 by decide), e4⟩
theorem ls_run {rc cc : Int32} {bn bd : Nat → Int64} {bc bs bl br bk : Nat → Int32} {bw : Nat → Int64} {rx cl : Int32} {nn dd : Nat → Int64} {fi sg lf rf ce sk : Nat → Int32} {sv : Nat → Int64} (hB : RB rc cc bn bd bc bs bl br bk bw rx cl nn dd fi sg lf rf ce sk sv) {fz fc : Int32} {fn gn gv : Nat → Int64} {fv : Nat → Int32} (hF : RF fz fn fv fc gn gv) {as_ ad aq da : Int32} {an re : Nat → Int64} {sx : Nat → Int32} (ha : RA as_ ad an rc aq da sx re) {js : Int32} {j1 j2 j3 j4 : Int64} {pe wy : Int32} {mi : Int64} {ru rl : Nat → Int64} {pi wh : Int32} {ms : Int64} {lu ld qu qd : Int64} {up dn : Nat → Int64} {dy : Int32} {qf : Nat → Int64} {z1 : Int32 × Int32 × Int32 × (Nat → Int64) × Int32 × Int64 × Int64 × Int64 × Int64 × Int32 × Int32 × Int64 × (Nat → Int64) × (Nat → Int64) × (Nat → Int64)} {z2 : Int32 × Int32 × Int32 × Int32 × Int64 × Int32 × Int32 × Int64 × Int64 × Int64 × Int64 × (Nat → Int64) × (Nat → Int64) × (Nat → Int64) × (Nat → Int32)} (h1 : z1 = f_Law_run dy as_ ad an fz fn fv js j1 j2 j3 j4 pe wy mi ru rl rc bd bc bs bl br bk bw qf) (h2 : z2 = f_Model_run dy rx fc pi wh ms aq da lu ld qu qd dd fi sg lf rf ce sk sv gn gv up dn re sx) : z2.2.1 = z1.1 ∧ (z1.1 = 0 → lg_cmp (z1.2.2.2.2.2.2.2.2.2.2.2.2.2.2 (0 : Int32).toNatClampNeg) z2.1.toInt64 = 0) ∧ RA z1.2.1 z1.2.2.1 z1.2.2.2.1 rc z2.2.2.2.2.2.1 z2.2.2.2.2.2.2.1 z2.2.2.2.2.2.2.2.2.2.2.2.2.2.2 z2.2.2.2.2.2.2.2.2.2.2.2.2.2.1 := by
  obtain ⟨x, y, hx, hy, e1, e2, e3, e4⟩ := rn_eq hB hF.1 dy as_ ad an js j1 j2 j3 j4 pe wy mi ru rl pi wh ms aq da lu ld qu qd up dn re sx ha
  have h2' : z2 = y := h2.trans hy.symm
  subst h2'
  have h1' : z1 = (if x.1 = 0 then (0, x.2.2.1, x.2.2.2.1, x.2.2.2.2.1, x.2.2.2.2.2.1, x.2.2.2.2.2.2.1, x.2.2.2.2.2.2.2.1, x.2.2.2.2.2.2.2.2.1, x.2.2.2.2.2.2.2.2.2.1, x.2.2.2.2.2.2.2.2.2.2.1, x.2.2.2.2.2.2.2.2.2.2.2.1, x.2.2.2.2.2.2.2.2.2.2.2.2.1, x.2.2.2.2.2.2.2.2.2.2.2.2.2.1, x.2.2.2.2.2.2.2.2.2.2.2.2.2.2, vp_updL qf (0 : Int32).toNatClampNeg x.2.1.toInt64) else (1, x.2.2.1, x.2.2.2.1, x.2.2.2.2.1, x.2.2.2.2.2.1, x.2.2.2.2.2.2.1, x.2.2.2.2.2.2.2.1, x.2.2.2.2.2.2.2.2.1, x.2.2.2.2.2.2.2.2.2.1, x.2.2.2.2.2.2.2.2.2.2.1, x.2.2.2.2.2.2.2.2.2.2.2.1, x.2.2.2.2.2.2.2.2.2.2.2.2.1, x.2.2.2.2.2.2.2.2.2.2.2.2.2.1, x.2.2.2.2.2.2.2.2.2.2.2.2.2.2, qf)) := by
    rw [h1]
    unfold f_Law_run
    simp only [lt_]
    rw [← hx]
  by_cases hz : x.1 = 0
  · rw [if_pos hz] at h1'
    subst h1'
    refine ⟨e1.symm.trans hz, fun _ => ?_, e4⟩
    show lg_cmp (vp_updL qf (0 : Int32).toNatClampNeg x.2.1.toInt64 (0 : Int32).toNatClampNeg) z2.1.toInt64 = 0
    rw [up_s, e3 hz]
    exact lc_z.mpr rfl
  · rw [if_neg hz] at h1'
    subst h1'
    rcases e2 with q | q
    · exact absurd q hz
    · exact ⟨e1.symm.trans q, fun q9 => absurd q9 (show ¬ (1 : Int32) = 0 by decide), e4⟩
theorem ls_suggest {rc cc : Int32} {bn bd : Nat → Int64} {bc bs bl br bk : Nat → Int32} {bw : Nat → Int64} {rx cl : Int32} {nn dd : Nat → Int64} {fi sg lf rf ce sk : Nat → Int32} {sv : Nat → Int64} (hB : RB rc cc bn bd bc bs bl br bk bw rx cl nn dd fi sg lf rf ce sk sv) {fz fc : Int32} {fn gn gv : Nat → Int64} {fv : Nat → Int32} (hF : RF fz fn fv fc gn gv) {js : Int32} {j1 j2 j3 j4 : Int64} {pe wy : Int32} {mi : Int64} {ru rl : Nat → Int64} {pi wh : Int32} {ms : Int64} {lu ld qu qd : Int64} {up dn : Nat → Int64} {as_ ad aq da : Int32} {re : Nat → Int64} (ea : as_ = aq) (ed : ad = da) {nu : Int32} {nm : Int64} {sp : Int32} {qf : Nat → Int64} {z1 : Int32 × (Nat → Int32) × Int32 × Int64 × Int64 × Int64 × Int64 × Int32 × Int32 × Int64 × (Nat → Int64) × (Nat → Int64) × (Nat → Int64)} {z2 : Int64 × Int32 × Int32 × Int32 × Int64 × Int64 × Int64 × Int64 × Int64 × (Nat → Int64) × (Nat → Int64) × (Nat → Int64) × (Nat → Int64)} (h1 : z1 = f_Law_suggest nu nm sp as_ ad fz fn fv js j1 j2 j3 j4 pe wy mi ru rl rc bd bc bs bl br bk bw qf) (h2 : z2 = f_Model_suggest nu nm sp rx fc pi wh ms aq da lu ld qu qd dd fi sg lf rf ce sk sv gn gv up dn re) : z2.2.1 = z1.1 ∧ (z1.1 = 0 → lg_cmp (z1.2.2.2.2.2.2.2.2.2.2.2.2 (0 : Int32).toNatClampNeg) z2.1 = 0) ∧ z1.2.1 = fv ∧ z2.2.2.2.2.2.2.2.2.2.1 = gv ∧ z2.2.2.2.2.2.2.2.2.2.2.2.2 = re := by
  obtain ⟨x, y, hx, hy, e1, e2, e3, e4, e5, e6⟩ := su_eq hB hF nu nm sp as_ ad js j1 j2 j3 j4 pe wy mi ru rl pi wh ms aq da lu ld qu qd up dn re ea ed
  have h2' : z2 = y := h2.trans hy.symm
  subst h2'
  have h1' : z1 = (if x.1 = 0 then (0, x.2.2.1, x.2.2.2.1, x.2.2.2.2.1, x.2.2.2.2.2.1, x.2.2.2.2.2.2.1, x.2.2.2.2.2.2.2.1, x.2.2.2.2.2.2.2.2.1, x.2.2.2.2.2.2.2.2.2.1, x.2.2.2.2.2.2.2.2.2.2.1, x.2.2.2.2.2.2.2.2.2.2.2.1, x.2.2.2.2.2.2.2.2.2.2.2.2, vp_updL qf (0 : Int32).toNatClampNeg x.2.1) else (if x.1 = 1 then (1, x.2.2.1, x.2.2.2.1, x.2.2.2.2.1, x.2.2.2.2.2.1, x.2.2.2.2.2.2.1, x.2.2.2.2.2.2.2.1, x.2.2.2.2.2.2.2.2.1, x.2.2.2.2.2.2.2.2.2.1, x.2.2.2.2.2.2.2.2.2.2.1, x.2.2.2.2.2.2.2.2.2.2.2.1, x.2.2.2.2.2.2.2.2.2.2.2.2, qf) else (2, x.2.2.1, x.2.2.2.1, x.2.2.2.2.1, x.2.2.2.2.2.1, x.2.2.2.2.2.2.1, x.2.2.2.2.2.2.2.1, x.2.2.2.2.2.2.2.2.1, x.2.2.2.2.2.2.2.2.2.1, x.2.2.2.2.2.2.2.2.2.2.1, x.2.2.2.2.2.2.2.2.2.2.2.1, x.2.2.2.2.2.2.2.2.2.2.2.2, qf))) := by
    rw [h1]
    unfold f_Law_suggest
    simp only [lt_]
    rw [← hx]
  by_cases hz : x.1 = 0
  · rw [if_pos hz] at h1'
    subst h1'
    refine ⟨e1.symm.trans hz, fun _ => ?_, e4, e5, e6⟩
    show lg_cmp (vp_updL qf (0 : Int32).toNatClampNeg x.2.1 (0 : Int32).toNatClampNeg) z2.1 = 0
    rw [up_s, e3 hz]
    exact lc_z.mpr rfl
  · rw [if_neg hz] at h1'
    rcases e2 with q | q | q
    · exact absurd q hz
    · rw [if_pos q] at h1'
      subst h1'
      exact ⟨e1.symm.trans q, fun q9 => absurd q9 (show ¬ (1 : Int32) = 0 by decide), e4, e5, e6⟩
    · rw [if_neg (by rw [q]; decide)] at h1'
      subst h1'
      exact ⟨e1.symm.trans q, fun q9 => absurd q9 (show ¬ (2 : Int32) = 0 by decide), e4, e5, e6⟩
/-! the reference's own needs, out of the likeness -/
theorem pf_o {sk : Nat → Int32} : ∀ (n k p : Nat), p ≤ 19 → pfx sk n k p → pfo sk n k p := by
  intro n
  induction n with
  | zero => intro k p _ _; exact trivial
  | succ n ih =>
    intro k p hp h
    unfold pfx at h
    unfold pfo
    by_cases c1 : sk k = 1
    · rw [if_pos (Or.inl c1)] at h
      rw [if_pos c1]
      exact ⟨by omega, ih _ _ (by omega) h.2⟩
    · rw [if_neg c1]
      by_cases c2 : sk k = 2
      · rw [if_pos (Or.inr c2)] at h
        rw [if_pos c2]
        exact ⟨by omega, ih _ _ (by omega) h.2⟩
      · rw [if_neg (fun q => by rcases q with q | q; exact c1 q; exact c2 q)] at h
        rw [if_neg c2]
        by_cases c3 : sk k = 78
        · rw [if_pos c3] at h ⊢
          exact ⟨h.1, by omega, ih _ _ (by omega) h.2⟩
        · rw [if_neg c3] at h ⊢
          exact ⟨h.1, ih _ _ (by omega) h.2⟩
theorem rb_cl {rc cc : Int32} {bn bd : Nat → Int64} {bc bs bl br bk : Nat → Int32} {bw : Nat → Int64} {rx cl : Int32} {nn dd : Nat → Int64} {fi sg lf rf ce sk : Nat → Int32} {sv : Nat → Int64} (hB : RB rc cc bn bd bc bs bl br bk bw rx cl nn dd fi sg lf rf ce sk sv) : ∀ r : Int32, 0 ≤ r.toInt → r.toInt < rx.toInt → CLs fi sk lf rf ce r := by
  obtain ⟨a1, a2, a3, a4, a5, a6, a7, a8, N, a9, a10⟩ := hB
  intro r h0 h1 e he1 he2
  have er : r.toInt < rc.toInt := by rw [a1]; exact h1
  have t13 : (13 + r).toNatClampNeg = 13 + r.toInt.toNat := by
    have : (13 + r).toInt = 13 + r.toInt := oi_addE (by decide) rfl (by omega) (by omega)
    show (13 + r).toInt.toNat = _
    omega
  have t14 : (14 + r).toNatClampNeg = 14 + r.toInt.toNat := by
    have : (14 + r).toInt = 14 + r.toInt := oi_addE (by decide) rfl (by omega) (by omega)
    show (14 + r).toInt.toNat = _
    omega
  rw [t13] at he1 he2
  rw [t14] at he2
  obtain ⟨-, -, b3, b4, b5, b6, b7⟩ := a7 r.toInt.toNat (by omega)
  have hc : e.toInt - 120 < cc.toInt ∧ 120 ≤ e.toInt := by
    rcases he2 with q | q
    · omega
    · rw [q]; omega
  obtain ⟨⟨c1, c2, c3, c4, c5, c6, c7, c8, c9, c10, c11⟩, -⟩ := a10 (e.toInt - 120).toNat (by omega)
  have en : e.toNatClampNeg = 120 + (e.toInt - 120).toNat := by
    show e.toInt.toNat = _
    omega
  unfold CLe PF
  rw [en, c3, c4, c5]
  refine ⟨by omega, by omega, ⟨by omega, ?_⟩, ⟨by omega, ?_⟩, by omega, by omega⟩
  · rw [show ((bl (e.toInt - 120).toNat).toInt + 240 - (SB0 br (e.toInt - 120).toNat + 240)).toNat = ((bl (e.toInt - 120).toNat).toInt - SB0 br (e.toInt - 120).toNat).toNat by omega, show (SB0 br (e.toInt - 120).toNat + 240).toNat = 240 + (SB0 br (e.toInt - 120).toNat).toNat by omega]
    exact pf_o _ _ _ (by omega) c10
  · rw [show ((br (e.toInt - 120).toNat).toInt + 240 - ((bl (e.toInt - 120).toNat).toInt + 240)).toNat = ((br (e.toInt - 120).toNat).toInt - (bl (e.toInt - 120).toNat).toInt).toNat by omega, show ((bl (e.toInt - 120).toNat).toInt + 240).toNat = 240 + (bl (e.toInt - 120).toNat).toInt.toNat by omega]
    exact pf_o _ _ _ (by omega) c11
/-! all that is alike between two calls -/
def REL (tl : Int32) (tf : Nat → Int32) (ml : Int32) (mt : Nat → Int32) (fz : Int32) (fn : Nat → Int64) (fv : Nat → Int32) (fc : Int32) (gn gv : Nat → Int64) (rc cc : Int32) (bn bd : Nat → Int64) (bc bs bl br bk : Nat → Int32) (bw : Nat → Int64) (rx cl : Int32) (nn dd : Nat → Int64) (fi sg lf rf ce sk : Nat → Int32) (sv : Nat → Int64) (as_ ad : Int32) (an : Nat → Int64) (aq da : Int32) (sx : Nat → Int32) (re : Nat → Int64) : Prop :=
  RT tl tf ml mt ∧ RF fz fn fv fc gn gv ∧ RB rc cc bn bd bc bs bl br bk bw rx cl nn dd fi sg lf rf ce sk sv ∧ RA as_ ad an rc aq da sx re
theorem rel_0 {tf mt : Nat → Int32} {fn gn gv : Nat → Int64} {fv : Nat → Int32} {bn bd : Nat → Int64} {bc bs bl br bk : Nat → Int32} {bw : Nat → Int64} {nn dd : Nat → Int64} {fi sg lf rf ce sk : Nat → Int32} {sv an : Nat → Int64} {sx : Nat → Int32} {re : Nat → Int64} : REL 0 tf 0 mt 0 fn fv 0 gn gv 0 0 bn bd bc bs bl br bk bw 0 0 nn dd fi sg lf rf ce sk sv 0 0 an 0 0 sx re := by
  have n0 : ∀ j : Nat, ¬ (j : Int) < (0 : Int32).toInt := fun j h => by rw [oi_z] at h; omega
  exact ⟨⟨rfl, by decide, by decide, fun j h => absurd h (n0 j)⟩, ⟨⟨rfl, by decide, by decide, fun j h => absurd h (n0 j), fun i j h => absurd h (n0 i)⟩, fun j h => absurd h (n0 j)⟩, ⟨rfl, rfl, by decide, by decide, by decide, by decide, fun q h => absurd h (n0 q), fun p q h => absurd h (n0 p), 0, fun k h => by omega, fun k h => absurd h (n0 k)⟩, rfl, rfl, fun h => absurd rfl h⟩
