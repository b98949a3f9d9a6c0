/-- how many of the bytes at the shifts 0 .. 8 j - 8 are not 0 -/
def by_ (wd : Int64) (k_ : Int32) : Int32 := ((wd >>> (k_.toInt64 &&& 63)) &&& 255).toInt32
def bc (wd : Int64) : Nat → Nat
  | 0 => 0
  | j + 1 => bc wd j + if by_ wd (nI (8 * j)) = 0 then 0 else 1
theorem bc_le (wd : Int64) : ∀ j, bc wd j ≤ j := by
  intro j
  induction j with
  | zero => exact Nat.le_refl _
  | succ j ih =>
    unfold bc
    split <;> omega
def SI (wd : Int64) (k_ mo : Int32) : Prop := ∃ j : Nat, j ≤ 8 ∧ k_.toInt = 8 * (j : Int) - 8 ∧ mo.toInt + (bc wd j : Int) = bc wd 8
def SJ (wd : Int64) (k_ xl xt : Int32) : Prop := ∃ j : Nat, j ≤ 8 ∧ k_.toInt = 8 * (j : Int) - 8 ∧ 0 ≤ xl.toInt ∧ (xt = 0 → xl.toInt + (bc wd j : Int) ≤ 800)
theorem bc_m8 : (8 : Int32).toInt = 8 := by decide
theorem bc_k {k_ : Int32} {n : Nat} (hn : (k_.toInt + 8).toNat / 8 < n + 1) (h : ¬ k_ < 0) : ((k_ - 8).toInt + 8).toNat / 8 < n := by
  rw [oi_lt, oi_z] at h
  have b := oi_hi k_
  rw [oi_subE rfl bc_m8 (by omega) (by omega)]
  omega
theorem bc_j {wd : Int64} {k_ : Int32} {j : Nat} (hj : j ≤ 8) (hk : k_.toInt = 8 * (j : Int) - 8) (h : ¬ k_ < 0) : ∃ i : Nat, j = i + 1 ∧ k_ = nI (8 * i) ∧ (k_ - 8).toInt = 8 * (i : Int) - 8 := by
  rw [oi_lt, oi_z] at h
  have b := oi_hi k_
  refine ⟨j - 1, by omega, ?_, ?_⟩
  · apply Int32.toInt_inj.mp
    rw [nI_toInt (by omega), hk]
    omega
  · rw [oi_subE rfl bc_m8 (by omega) (by omega), hk]
    omega
theorem SI_0 {wd : Int64} {mo : Int32} (h : mo.toInt = 0) : SI wd 56 mo := ⟨8, Nat.le_refl _, by decide, by omega⟩
theorem SI_n {wd : Int64} {k_ mo : Int32} (hI : SI wd k_ mo) (h : ¬ k_ < 0) (p : by_ wd k_ = 0) : SI wd (k_ - 8) mo := by
  obtain ⟨j, hj, hk, hc⟩ := hI
  obtain ⟨i, rfl, e, hk2⟩ := bc_j (wd := wd) hj hk h
  refine ⟨i, by omega, hk2, ?_⟩
  unfold bc at hc
  rw [← e, if_pos p] at hc
  have : bc wd 8 = bc wd 8 := rfl
  simpa [bc] using hc
theorem SI_y {wd : Int64} {k_ mo : Int32} (hI : SI wd k_ mo) (h : ¬ k_ < 0) (p : ¬ by_ wd k_ = 0) : SI wd (k_ - 8) (mo + 1) := by
  obtain ⟨j, hj, hk, hc⟩ := hI
  obtain ⟨i, rfl, e, hk2⟩ := bc_j (wd := wd) hj hk h
  have hs : bc wd (i + 1) = bc wd i + 1 := by show bc wd i + (if by_ wd (nI (8 * i)) = 0 then 0 else 1) = _; rw [← e, if_neg p]
  have b := bc_le wd 8
  have b2 := bc_le wd i
  refine ⟨i, by omega, hk2, ?_⟩
  rw [hs] at hc
  rw [oi_addE rfl oi_1 (by omega) (by omega)]
  omega
theorem SI_e {wd : Int64} {k_ mo : Int32} (hI : SI wd k_ mo) (h : k_ < 0) : mo.toInt = bc wd 8 := by
  obtain ⟨j, hj, hk, hc⟩ := hI
  rw [oi_lt, oi_z] at h
  have : j = 0 := by omega
  rw [this] at hc
  show mo.toInt = ((bc wd 8 : Nat) : Int)
  rw [← hc]
  show _ = mo.toInt + ((0 : Nat) : Int)
  omega
theorem SJ_x {wd : Int64} {xl xt : Int32} (h0 : 0 ≤ xl.toInt) (h : ¬ xt = 0) : SJ wd 56 xl xt := ⟨8, Nat.le_refl _, by decide, h0, fun e => absurd e h⟩
theorem SJ_0 {wd : Int64} {k_ mo ml xt : Int32} (hI : SI wd k_ mo) (h : k_ < 0) (h0 : 0 ≤ ml.toInt) (hL : ml.toInt ≤ 800) (q : ml + mo ≤ 800) : SJ wd 56 ml xt := by
  have e := SI_e hI h
  have b := bc_le wd 8
  refine ⟨8, Nat.le_refl _, by decide, h0, fun _ => ?_⟩
  rw [oi_le, oi_addE rfl rfl (by omega) (by omega), show (800 : Int32).toInt = 800 by decide] at q
  omega
theorem sj_in {wd : Int64} {k_ xl xt : Int32} (hJ : SJ wd k_ xl xt) (h : ¬ k_ < 0) (ht : xt = 0) (p : ¬ by_ wd k_ = 0) : vp_in xl 800 := by
  obtain ⟨j, hj, hk, h0, hc⟩ := hJ
  obtain ⟨i, rfl, e, hk2⟩ := bc_j (wd := wd) hj hk h
  have hs : bc wd (i + 1) = bc wd i + 1 := by show bc wd i + (if by_ wd (nI (8 * i)) = 0 then 0 else 1) = _; rw [← e, if_neg p]
  have := hc ht
  rw [hs] at this
  exact ib_in rfl h0 (by omega)
theorem SJ_n {wd : Int64} {k_ xl xt : Int32} (hJ : SJ wd k_ xl xt) (h : ¬ k_ < 0) (p : by_ wd k_ = 0) : SJ wd (k_ - 8) xl xt := by
  obtain ⟨j, hj, hk, h0, hc⟩ := hJ
  obtain ⟨i, rfl, e, hk2⟩ := bc_j (wd := wd) hj hk h
  have hs : bc wd (i + 1) = bc wd i := by show bc wd i + (if by_ wd (nI (8 * i)) = 0 then 0 else 1) = _; rw [← e, if_pos p]; rfl
  rw [hs] at hc
  exact ⟨i, by omega, hk2, h0, hc⟩
theorem SJ_y {wd : Int64} {k_ xl xt : Int32} (hJ : SJ wd k_ xl xt) (h : ¬ k_ < 0) (ht : xt = 0) (p : ¬ by_ wd k_ = 0) : SJ wd (k_ - 8) (xl + 1) xt := by
  obtain ⟨j, hj, hk, h0, hc⟩ := hJ
  obtain ⟨i, rfl, e, hk2⟩ := bc_j (wd := wd) hj hk h
  have hs : bc wd (i + 1) = bc wd i + 1 := by show bc wd i + (if by_ wd (nI (8 * i)) = 0 then 0 else 1) = _; rw [← e, if_neg p]
  rw [hs] at hc
  have := hc ht
  have a : (xl + 1).toInt = xl.toInt + 1 := oi_addE rfl oi_1 (by omega) (by omega)
  exact ⟨i, by omega, hk2, by rw [a]; omega, fun _ => by rw [a]; omega⟩
def f_Model_say_L117 (wd : Int64) (ml : Int32) (mt : (Nat → Int32)) : Nat → Int32 → Int32 → Int32 → (Nat → Int32) → Int32 × Int32 × Int32 × (Nat → Int32)
  | 0, _, _, _, _ => (0, 0, 0, (fun _ => 0))
  | n + 1, k_, xt, xl, xf => (if k_ < 0 then (if xt ≤ 0 then (xl, xt, xl, xf) else (0, xt, xl, xf)) else (if xt = 0 then (if (((wd >>> (k_.toInt64 &&& 63)) &&& 255).toInt32) = 0 then (f_Model_say_L117 wd ml mt n (k_ - 8) xt xl xf) else (f_Model_say_L117 wd ml mt n (k_ - 8) xt (xl + 1) (upd xf xl.toNatClampNeg (((wd >>> (k_.toInt64 &&& 63)) &&& 255).toInt32)))) else (if xt ≤ 0 then (xl, xt, xl, xf) else (0, xt, xl, xf))))
theorem f_Model_say_L117_s (wd : Int64) (ml : Int32) (mt : (Nat → Int32)) (n : Nat) (k_ : Int32) (xt : Int32) (xl : Int32) (xf : (Nat → Int32)) : f_Model_say_L117 wd ml mt (n + 1) k_ xt xl xf = (if k_ < 0 then (if xt ≤ 0 then (xl, xt, xl, xf) else (0, xt, xl, xf)) else (if xt = 0 then (if (((wd >>> (k_.toInt64 &&& 63)) &&& 255).toInt32) = 0 then (f_Model_say_L117 wd ml mt n (k_ - 8) xt xl xf) else (f_Model_say_L117 wd ml mt n (k_ - 8) xt (xl + 1) (upd xf xl.toNatClampNeg (((wd >>> (k_.toInt64 &&& 63)) &&& 255).toInt32)))) else (if xt ≤ 0 then (xl, xt, xl, xf) else (0, xt, xl, xf)))) := rfl
def f_Model_say_L11 (wd : Int64) (ml : Int32) (mt : (Nat → Int32)) : Nat → Int32 → Int32 → Int32 → Int32 × Int32 × Int32 × (Nat → Int32)
  | 0, _, _, _ => (0, 0, 0, (fun _ => 0))
  | n + 1, k_, mo, xt => (if k_ < 0 then (if xt = 0 then (if (ml + mo) ≤ 800 then (f_Model_say_L117 wd ml mt 9 56 xt ml mt) else (f_Model_say_L117 wd ml mt 9 56 2 ml mt)) else (f_Model_say_L117 wd ml mt 9 56 xt ml mt)) else (if (((wd >>> (k_.toInt64 &&& 63)) &&& 255).toInt32) = 0 then (if (((wd >>> (k_.toInt64 &&& 63)) &&& 255).toInt32) = 0 then (f_Model_say_L11 wd ml mt n (k_ - 8) mo xt) else (f_Model_say_L11 wd ml mt n (k_ - 8) (mo + 1) xt)) else (lt_ (f_Model_in ((((wd >>> (k_.toInt64 &&& 63)) &&& 255).toInt32).toInt64) 32 126) fun z_11 => (if z_11 = 0 then (if (((wd >>> (k_.toInt64 &&& 63)) &&& 255).toInt32) = 0 then (f_Model_say_L11 wd ml mt n (k_ - 8) mo 1) else (f_Model_say_L11 wd ml mt n (k_ - 8) (mo + 1) 1)) else (if (((wd >>> (k_.toInt64 &&& 63)) &&& 255).toInt32) = 0 then (f_Model_say_L11 wd ml mt n (k_ - 8) mo xt) else (f_Model_say_L11 wd ml mt n (k_ - 8) (mo + 1) xt))))))
theorem f_Model_say_L11_s (wd : Int64) (ml : Int32) (mt : (Nat → Int32)) (n : Nat) (k_ : Int32) (mo : Int32) (xt : Int32) : f_Model_say_L11 wd ml mt (n + 1) k_ mo xt = (if k_ < 0 then (if xt = 0 then (if (ml + mo) ≤ 800 then (f_Model_say_L117 wd ml mt 9 56 xt ml mt) else (f_Model_say_L117 wd ml mt 9 56 2 ml mt)) else (f_Model_say_L117 wd ml mt 9 56 xt ml mt)) else (if (((wd >>> (k_.toInt64 &&& 63)) &&& 255).toInt32) = 0 then (if (((wd >>> (k_.toInt64 &&& 63)) &&& 255).toInt32) = 0 then (f_Model_say_L11 wd ml mt n (k_ - 8) mo xt) else (f_Model_say_L11 wd ml mt n (k_ - 8) (mo + 1) xt)) else (lt_ (f_Model_in ((((wd >>> (k_.toInt64 &&& 63)) &&& 255).toInt32).toInt64) 32 126) fun z_11 => (if z_11 = 0 then (if (((wd >>> (k_.toInt64 &&& 63)) &&& 255).toInt32) = 0 then (f_Model_say_L11 wd ml mt n (k_ - 8) mo 1) else (f_Model_say_L11 wd ml mt n (k_ - 8) (mo + 1) 1)) else (if (((wd >>> (k_.toInt64 &&& 63)) &&& 255).toInt32) = 0 then (f_Model_say_L11 wd ml mt n (k_ - 8) mo xt) else (f_Model_say_L11 wd ml mt n (k_ - 8) (mo + 1) xt)))))) := rfl
def f_Model_say (wd : Int64) (ml : Int32) (mt : (Nat → Int32)) : Int32 × Int32 × Int32 × (Nat → Int32) := (f_Model_say_L11 wd ml mt 9 56 0 0)
abbrev q_Model_say (dC : Nat → ClassId) (dI : Nat → Nat → Nat) (cB cI cJ : ClassId) (oM mT mN mD mF mS mL mR mE mK mV mO mA mB mU mW mX mY : Nat) (wd : Int64) (th : Int32) (ml : Int32) (ma : Int32) (mk : Int32) (mp : Int32) (mv : Int64) (mw : Int32) (dr : Int32) (dc : Int32) (ds : Int32) (ru : Int32) (cl : Int32) (os : Int32) (fc : Int32) (pi : Int32) (wh : Int32) (ms : Int64) (aq : Int32) (da : Int32) (lu : Int64) (ld : Int64) (qu : Int64) (qd : Int64) (mt : (Nat → Int32)) (A : Nat → Prop) : Array Value → State → Outcome → State → Prop := va_Qi (fun (r : Int32) (u : Int32 × Int32 × (Nat → Int32)) => r = (f_Model_say wd ml mt).1 ∧ u = (f_Model_say wd ml mt).2) (fun u t => va_P (dC, dI) vwCl [(oM, .inr (8, [.int u.1, .ref mT, .int u.2.1, .int ma, .int mk, .int mp, .long mv, .int mw, .ref mN, .ref mD, .ref mF, .ref mS, .ref mL, .ref mR, .ref mE, .ref mK, .ref mV, .int dr, .int dc, .int ds, .int ru, .int cl, .ref mO, .int os, .int fc, .ref mA, .ref mB, .ref mU, .ref mW, .int pi, .int wh, .long ms, .int aq, .int da, .ref mX, .ref mY, .long lu, .long ld, .long qu, .long qd])), (mT, .inl (cI, 800, .inl u.2.2))] t.heap ∧ va_D A [(oM, .inr (8, [.int u.1, .ref mT, .int u.2.1, .int ma, .int mk, .int mp, .long mv, .int mw, .ref mN, .ref mD, .ref mF, .ref mS, .ref mL, .ref mR, .ref mE, .ref mK, .ref mV, .int dr, .int dc, .int ds, .int ru, .int cl, .ref mO, .int os, .int fc, .ref mA, .ref mB, .ref mU, .ref mW, .int pi, .int wh, .long ms, .int aq, .int da, .ref mX, .ref mY, .long lu, .long ld, .long qu, .long qd])), (mT, .inl (cI, 800, .inl u.2.2))]) A
set_option maxHeartbeats 4000000 in
set_option maxRecDepth 100000 in
theorem c_Model_say (l : Launch) (dC : Nat → ClassId) (dI : Nat → Nat → Nat) (cB cI cJ : ClassId) (oM mT mN mD mF mS mL mR mE mK mV mO mA mB mU mW mX mY : Nat) (sz : Nat) (wd : Int64) (th : Int32) (ml : Int32) (ma : Int32) (mk : Int32) (mp : Int32) (mv : Int64) (mw : Int32) (dr : Int32) (dc : Int32) (ds : Int32) (ru : Int32) (cl : Int32) (os : Int32) (fc : Int32) (pi : Int32) (wh : Int32) (ms : Int64) (aq : Int32) (da : Int32) (lu : Int64) (ld : Int64) (qu : Int64) (qd : Int64) (mt : (Nat → Int32)) (h0 : 0 ≤ ml.toInt) (hL : ml.toInt ≤ 800) : Met l y_Model_say (cw_Model_say :: bgw) { frames := 1, cells := 0, slots := 0, locals := 25 } (va_Pc [.ref oM, .long wd] (kb_B dC dI cB cI cJ [(oM, .inr (8, [.int th, .ref mT, .int ml, .int ma, .int mk, .int mp, .long mv, .int mw, .ref mN, .ref mD, .ref mF, .ref mS, .ref mL, .ref mR, .ref mE, .ref mK, .ref mV, .int dr, .int dc, .int ds, .int ru, .int cl, .ref mO, .int os, .int fc, .ref mA, .ref mB, .ref mU, .ref mW, .int pi, .int wh, .long ms, .int aq, .int da, .ref mX, .ref mY, .long lu, .long ld, .long qu, .long qd])), (mT, .inl (cI, 800, .inl mt))] sz)) (q_Model_say dC dI cB cI cJ oM mT mN mD mF mS mL mR mE mK mV mO mA mB mU mW mX mY wd th ml ma mk mp mv mw dr dc ds ru cl os fc pi wh ms aq da lu ld qu qd mt (va_A [(oM, .inr (8, [.int th, .ref mT, .int ml, .int ma, .int mk, .int mp, .long mv, .int mw, .ref mN, .ref mD, .ref mF, .ref mS, .ref mL, .ref mR, .ref mE, .ref mK, .ref mV, .int dr, .int dc, .int ds, .int ru, .int cl, .ref mO, .int os, .int fc, .ref mA, .ref mB, .ref mU, .ref mW, .int pi, .int wh, .long ms, .int aq, .int da, .ref mX, .ref mY, .long lu, .long ld, .long qu, .long qd])), (mT, .inl (cI, 800, .inl mt))] sz)) 0 0 (va_A [(oM, .inr (8, [.int th, .ref mT, .int ml, .int ma, .int mk, .int mp, .long mv, .int mw, .ref mN, .ref mD, .ref mF, .ref mS, .ref mL, .ref mR, .ref mE, .ref mK, .ref mV, .int dr, .int dc, .int ds, .int ru, .int cl, .ref mO, .int os, .int fc, .ref mA, .ref mB, .ref mU, .ref mW, .int pi, .int wh, .long ms, .int aq, .int da, .ref mX, .ref mY, .long lu, .long ld, .long qu, .long qd])), (mT, .inl (cI, 800, .inl mt))] sz) := by
  refine Met.ofW (cc := prog_10_method_4_code) (maxL := 6) (ret := (some .int)) (by decide) rfl ?_
  intro p e s m args below meth c s₁ B hml hv
  obtain ⟨rfl, hsz, hP, hKx, hD0⟩ := hv
  have hx := B.exec
  have hb := B.bytes
  have hr := B.returns
  have hts := atoms_spec (ws := (cw_Model_say :: bgw)) B.pre
  have hown : s.vm.findClass "PermitRulesModel" = some m.cls := findClass_of_methodNamed B.named
  have hlocks := B.notSynchronized
  have htb := fun (w : Cond) (h : w ∈ bgw) => hts w (List.mem_cons_of_mem _ h)
  have hK := hKx.1
  subst hsz
  have hD := hD0.self (sz := s.heap.size)
  generalize hAe : va_A [(oM, .inr (8, [.int th, .ref mT, .int ml, .int ma, .int mk, .int mp, .long mv, .int mw, .ref mN, .ref mD, .ref mF, .ref mS, .ref mL, .ref mR, .ref mE, .ref mK, .ref mV, .int dr, .int dc, .int ds, .int ru, .int cl, .ref mO, .int os, .int fc, .ref mA, .ref mB, .ref mU, .ref mW, .int pi, .int wh, .long ms, .int aq, .int da, .ref mX, .ref mY, .long lu, .long ld, .long qu, .long qd])), (mT, .inl (cI, 800, .inl mt))] s.heap.size = A at hD ⊢
  have hA : ∀ q : Nat, s.heap.size ≤ q → A q := fun q h => by rw [← hAe]; exact Or.inr h
  have hS : va_S A s.heap s.heap [] := va_S.rf
  have hl := lv_entry ([.ref oM, .long wd]) (n := 6) (Nat.le_of_ble_eq_true rfl)
  rw [lg_entry_eq]
  generalize (lg_sl ([.ref oM, .long wd]) ++ List.replicate (6 - (lg_sl ([.ref oM, .long wd])).length) Slot.unset).toArray = ls at hl ⊢
  have hl : lv_has ls 6 [(0, .ref oM), (1, .long wd)] := hl
  have hP : va_P (dC, dI) vwCl [(oM, .inr (8, [.int th, .ref mT, .int ml, .int ma, .int mk, .int mp, .long mv, .int mw, .ref mN, .ref mD, .ref mF, .ref mS, .ref mL, .ref mR, .ref mE, .ref mK, .ref mV, .int dr, .int dc, .int ds, .int ru, .int cl, .ref mO, .int os, .int fc, .ref mA, .ref mB, .ref mU, .ref mW, .int pi, .int wh, .long ms, .int aq, .int da, .ref mX, .ref mY, .long lu, .long ld, .long qu, .long qd])), (mT, .inl (cI, 800, .inl mt))] s.heap := hP
  have hF : f_Model_say wd ml mt = (f_Model_say_L11 wd ml mt 9 56 0 0) := rfl
  have lp117 : ∀ (n : Nat) (k_ : Int32) (xt : Int32) (xl : Int32) (xf : (Nat → Int32)), SJ wd k_ xl xt → ((k_.toInt + 8).toNat / 8) < n → f_Model_say wd ml mt = f_Model_say_L117 wd ml mt n k_ xt xl xf → ∀ (H : Heap) (locs : List Loc) (ls : Array Slot), va_P (dC, dI) vwCl [(oM, .inr (8, [.int xt, .ref mT, .int xl, .int ma, .int mk, .int mp, .long mv, .int mw, .ref mN, .ref mD, .ref mF, .ref mS, .ref mL, .ref mR, .ref mE, .ref mK, .ref mV, .int dr, .int dc, .int ds, .int ru, .int cl, .ref mO, .int os, .int fc, .ref mA, .ref mB, .ref mU, .ref mW, .int pi, .int wh, .long ms, .int aq, .int da, .ref mX, .ref mY, .long lu, .long ld, .long qu, .long qd])), (mT, .inl (cI, 800, .inl xf))] H → va_D A [(oM, .inr (8, [.int xt, .ref mT, .int xl, .int ma, .int mk, .int mp, .long mv, .int mw, .ref mN, .ref mD, .ref mF, .ref mS, .ref mL, .ref mR, .ref mE, .ref mK, .ref mV, .int dr, .int dc, .int ds, .int ru, .int cl, .ref mO, .int os, .int fc, .ref mA, .ref mB, .ref mU, .ref mW, .int pi, .int wh, .long ms, .int aq, .int da, .ref mX, .ref mY, .long lu, .long ld, .long qu, .long qd])), (mT, .inl (cI, 800, .inl xf))] → va_S A s.heap H locs → lv_has ls 6 [(4, .int k_), (0, .ref oM), (1, .long wd)] → W p l e (headSpec (cw_Model_say :: bgw) { frames := 1, cells := 0, slots := 0, locals := 25 }).room s m ([.ref oM, .long wd] : List Value).toArray below meth c H locs 0 0 (MQ below (q_Model_say dC dI cB cI cJ oM mT mN mD mF mS mL mR mE mK mV mO mA mB mU mW mX mY wd th ml ma mk mp mv mw dr dc ds ru cl os fc pi wh ms aq da lu ld qu qd mt A) ([.ref oM, .long wd] : List Value).toArray s 0 0 A) (F0 m 117 ls []) := by
    intro n
    induction n with
    | zero => intro k_ xt xl xf hJ hn; exact absurd hn (Nat.not_lt_zero _)
    | succ n ih =>
      intro k_ xt xl xf hJ hn hF H locs ls hP hD hS hl
      have hF := hF.trans (f_Model_say_L117_s wd ml mt n k_ xt xl xf)
      refine lv_iload hx hb d_Model_say_117 (lv_at hl 0 rfl) ?_
      refine lv_if_lt (tgt := 176) hx hb d_Model_say_119 (by decide) (fun c_3 => ?_) (fun c_3 => ?_)
      · have hF := hF.trans (if_pos c_3)
        have tc_3 := ti_lt (Eq.refl k_.toInt) (show (0 : Int32).toInt = 0 by decide) c_3
        refine lv_aload_n hx hb d_Model_say_176 rfl (lv_at hl 1 rfl) ?_
        refine va_get (D := (dC, dI)) (ci := 8) (v := .int xt) (C := "PermitRulesModel") (T := T_Model) (N := 40) hx hb htb in_Model hown hK hP 0 rfl rfl 0 (by decide) (htb _ mb_653) (fun _ h9 => h9) rfl d_Model_say_177 ?_
        refine lv_if_le (tgt := 187) hx hb d_Model_say_180 (by decide) (fun c_4 => ?_) (fun c_4 => ?_)
        · have hF := hF.trans (if_pos c_4)
          have tc_4 := ti_le (Eq.refl xt.toInt) (show (0 : Int32).toInt = 0 by decide) c_4
          refine lv_aload_n hx hb d_Model_say_187 rfl (lv_at hl 1 rfl) ?_
          refine va_get (D := (dC, dI)) (ci := 8) (v := .int xl) (C := "PermitRulesModel") (T := T_Model) (N := 40) hx hb htb in_Model hown hK hP 0 rfl rfl 2 (by decide) (htb _ mb_655) (fun _ h9 => h9) rfl d_Model_say_188 ?_
          have hP9 := hP.sub (ws' := [(oM, .inr (8, [.int xt, .ref mT, .int xl, .int ma, .int mk, .int mp, .long mv, .int mw, .ref mN, .ref mD, .ref mF, .ref mS, .ref mL, .ref mR, .ref mE, .ref mK, .ref mV, .int dr, .int dc, .int ds, .int ru, .int cl, .ref mO, .int os, .int fc, .ref mA, .ref mB, .ref mU, .ref mW, .int pi, .int wh, .long ms, .int aq, .int da, .ref mX, .ref mY, .long lu, .long ld, .long qu, .long qd])), (mT, .inl (cI, 800, .inl xf))]) [0, 1] rfl
          have hD9 := hD.sub (ws' := [(oM, .inr (8, [.int xt, .ref mT, .int xl, .int ma, .int mk, .int mp, .long mv, .int mw, .ref mN, .ref mD, .ref mF, .ref mS, .ref mL, .ref mR, .ref mE, .ref mK, .ref mV, .int dr, .int dc, .int ds, .int ru, .int cl, .ref mO, .int os, .int fc, .ref mA, .ref mB, .ref mU, .ref mW, .int pi, .int wh, .long ms, .int aq, .int da, .ref mX, .ref mY, .long lu, .long ld, .long qu, .long qd])), (mT, .inl (cI, 800, .inl xf))]) [0, 1] (by decide) rfl
          exact W.iret (v := xl) hx hb hr (fun t ht hW => ⟨⟨xl, (xt, xl, xf), rfl, ⟨by rw [hF], by rw [hF]⟩, by rw [ht]; exact hP9, hD9⟩, hS.F ht⟩) hS.2.2 d_Model_say_191
        · have hF := hF.trans (if_neg c_4)
          have tc_4 := ti_nle (Eq.refl xt.toInt) (show (0 : Int32).toInt = 0 by decide) c_4
          refine lv_iconst (v := 0) hx hb d_Model_say_183 (by decide) ?_
          refine lv_goto (tgt := 191) hx hb d_Model_say_184 (by decide) ?_
          have hP9 := hP.sub (ws' := [(oM, .inr (8, [.int xt, .ref mT, .int xl, .int ma, .int mk, .int mp, .long mv, .int mw, .ref mN, .ref mD, .ref mF, .ref mS, .ref mL, .ref mR, .ref mE, .ref mK, .ref mV, .int dr, .int dc, .int ds, .int ru, .int cl, .ref mO, .int os, .int fc, .ref mA, .ref mB, .ref mU, .ref mW, .int pi, .int wh, .long ms, .int aq, .int da, .ref mX, .ref mY, .long lu, .long ld, .long qu, .long qd])), (mT, .inl (cI, 800, .inl xf))]) [0, 1] rfl
          have hD9 := hD.sub (ws' := [(oM, .inr (8, [.int xt, .ref mT, .int xl, .int ma, .int mk, .int mp, .long mv, .int mw, .ref mN, .ref mD, .ref mF, .ref mS, .ref mL, .ref mR, .ref mE, .ref mK, .ref mV, .int dr, .int dc, .int ds, .int ru, .int cl, .ref mO, .int os, .int fc, .ref mA, .ref mB, .ref mU, .ref mW, .int pi, .int wh, .long ms, .int aq, .int da, .ref mX, .ref mY, .long lu, .long ld, .long qu, .long qd])), (mT, .inl (cI, 800, .inl xf))]) [0, 1] (by decide) rfl
          exact W.iret (v := (0 : Int32)) hx hb hr (fun t ht hW => ⟨⟨(0 : Int32), (xt, xl, xf), rfl, ⟨by rw [hF], by rw [hF]⟩, by rw [ht]; exact hP9, hD9⟩, hS.F ht⟩) hS.2.2 d_Model_say_191
      · have hF := hF.trans (if_neg c_3)
        have tc_3 := ti_nlt (Eq.refl k_.toInt) (show (0 : Int32).toInt = 0 by decide) c_3
        refine lv_aload_n hx hb d_Model_say_122 rfl (lv_at hl 1 rfl) ?_
        refine va_get (D := (dC, dI)) (ci := 8) (v := .int xt) (C := "PermitRulesModel") (T := T_Model) (N := 40) hx hb htb in_Model hown hK hP 0 rfl rfl 0 (by decide) (htb _ mb_653) (fun _ h9 => h9) rfl d_Model_say_123 ?_
        refine lv_if_ne (tgt := 176) hx hb d_Model_say_126 (by decide) (fun c_5 => ?_) (fun c_5 => ?_)
        · have hF := hF.trans (if_neg c_5)
          have tc_5 := ti_ne (Eq.refl xt.toInt) (show (0 : Int32).toInt = 0 by decide) c_5
          refine lv_aload_n hx hb d_Model_say_176 rfl (lv_at hl 1 rfl) ?_
          refine va_get (D := (dC, dI)) (ci := 8) (v := .int xt) (C := "PermitRulesModel") (T := T_Model) (N := 40) hx hb htb in_Model hown hK hP 0 rfl rfl 0 (by decide) (htb _ mb_653) (fun _ h9 => h9) rfl d_Model_say_177 ?_
          refine lv_if_le (tgt := 187) hx hb d_Model_say_180 (by decide) (fun c_6 => ?_) (fun c_6 => ?_)
          · have hF := hF.trans (if_pos c_6)
            have tc_6 := ti_le (Eq.refl xt.toInt) (show (0 : Int32).toInt = 0 by decide) c_6
            refine lv_aload_n hx hb d_Model_say_187 rfl (lv_at hl 1 rfl) ?_
            refine va_get (D := (dC, dI)) (ci := 8) (v := .int xl) (C := "PermitRulesModel") (T := T_Model) (N := 40) hx hb htb in_Model hown hK hP 0 rfl rfl 2 (by decide) (htb _ mb_655) (fun _ h9 => h9) rfl d_Model_say_188 ?_
            have hP9 := hP.sub (ws' := [(oM, .inr (8, [.int xt, .ref mT, .int xl, .int ma, .int mk, .int mp, .long mv, .int mw, .ref mN, .ref mD, .ref mF, .ref mS, .ref mL, .ref mR, .ref mE, .ref mK, .ref mV, .int dr, .int dc, .int ds, .int ru, .int cl, .ref mO, .int os, .int fc, .ref mA, .ref mB, .ref mU, .ref mW, .int pi, .int wh, .long ms, .int aq, .int da, .ref mX, .ref mY, .long lu, .long ld, .long qu, .long qd])), (mT, .inl (cI, 800, .inl xf))]) [0, 1] rfl
            have hD9 := hD.sub (ws' := [(oM, .inr (8, [.int xt, .ref mT, .int xl, .int ma, .int mk, .int mp, .long mv, .int mw, .ref mN, .ref mD, .ref mF, .ref mS, .ref mL, .ref mR, .ref mE, .ref mK, .ref mV, .int dr, .int dc, .int ds, .int ru, .int cl, .ref mO, .int os, .int fc, .ref mA, .ref mB, .ref mU, .ref mW, .int pi, .int wh, .long ms, .int aq, .int da, .ref mX, .ref mY, .long lu, .long ld, .long qu, .long qd])), (mT, .inl (cI, 800, .inl xf))]) [0, 1] (by decide) rfl
            exact W.iret (v := xl) hx hb hr (fun t ht hW => ⟨⟨xl, (xt, xl, xf), rfl, ⟨by rw [hF], by rw [hF]⟩, by rw [ht]; exact hP9, hD9⟩, hS.F ht⟩) hS.2.2 d_Model_say_191
          · have hF := hF.trans (if_neg c_6)
            have tc_6 := ti_nle (Eq.refl xt.toInt) (show (0 : Int32).toInt = 0 by decide) c_6
            refine lv_iconst (v := 0) hx hb d_Model_say_183 (by decide) ?_
            refine lv_goto (tgt := 191) hx hb d_Model_say_184 (by decide) ?_
            have hP9 := hP.sub (ws' := [(oM, .inr (8, [.int xt, .ref mT, .int xl, .int ma, .int mk, .int mp, .long mv, .int mw, .ref mN, .ref mD, .ref mF, .ref mS, .ref mL, .ref mR, .ref mE, .ref mK, .ref mV, .int dr, .int dc, .int ds, .int ru, .int cl, .ref mO, .int os, .int fc, .ref mA, .ref mB, .ref mU, .ref mW, .int pi, .int wh, .long ms, .int aq, .int da, .ref mX, .ref mY, .long lu, .long ld, .long qu, .long qd])), (mT, .inl (cI, 800, .inl xf))]) [0, 1] rfl
            have hD9 := hD.sub (ws' := [(oM, .inr (8, [.int xt, .ref mT, .int xl, .int ma, .int mk, .int mp, .long mv, .int mw, .ref mN, .ref mD, .ref mF, .ref mS, .ref mL, .ref mR, .ref mE, .ref mK, .ref mV, .int dr, .int dc, .int ds, .int ru, .int cl, .ref mO, .int os, .int fc, .ref mA, .ref mB, .ref mU, .ref mW, .int pi, .int wh, .long ms, .int aq, .int da, .ref mX, .ref mY, .long lu, .long ld, .long qu, .long qd])), (mT, .inl (cI, 800, .inl xf))]) [0, 1] (by decide) rfl
            exact W.iret (v := (0 : Int32)) hx hb hr (fun t ht hW => ⟨⟨(0 : Int32), (xt, xl, xf), rfl, ⟨by rw [hF], by rw [hF]⟩, by rw [ht]; exact hP9, hD9⟩, hS.F ht⟩) hS.2.2 d_Model_say_191
        · have hF := hF.trans (if_pos c_5)
          have tc_5 := ti_eq (Eq.refl xt.toInt) (show (0 : Int32).toInt = 0 by decide) c_5
          refine lv_lload_n hx hb d_Model_say_129 rfl (lv_at hl 2 rfl) ?_
          refine lv_iload hx hb d_Model_say_130 (lv_at hl 0 rfl) ?_
          refine lv_lshr (v := wd >>> (k_.toInt64 &&& 63)) hx hb d_Model_say_132 rfl ?_
          refine lv_ldc2 (v := 255) hx hb hown (htb _ mb_782) d_Model_say_133 ?_
          refine lv_land hx hb d_Model_say_136 ?_
          refine lv_l2i (v := ((wd >>> (k_.toInt64 &&& 63)) &&& 255).toInt32) hx hb d_Model_say_137 rfl ?_
          refine lv_istore (lv' := [(5, .int (((wd >>> (k_.toInt64 &&& 63)) &&& 255).toInt32)), (4, .int k_), (0, .ref oM), (1, .long wd)]) hx hb d_Model_say_138 hl (by decide) rfl (fun ls hl => ?_)
          refine lv_iload hx hb d_Model_say_140 (lv_at hl 0 rfl) ?_
          refine lv_if_eq (tgt := 166) hx hb d_Model_say_142 (by decide) (fun c_7 => ?_) (fun c_7 => ?_)
          · have hF := hF.trans (if_pos c_7)
            have tc_7 := ti_eq (Eq.refl (((wd >>> (k_.toInt64 &&& 63)) &&& 255).toInt32).toInt) (show (0 : Int32).toInt = 0 by decide) c_7
            refine lv_iload hx hb d_Model_say_166 (lv_at hl 1 rfl) ?_
            refine lv_bipush (v := 8) hx hb d_Model_say_168 (by decide) ?_
            refine lv_isub hx hb d_Model_say_170 ?_
            refine lv_istore (lv' := [(4, .int (k_ - 8)), (5, .int (((wd >>> (k_.toInt64 &&& 63)) &&& 255).toInt32)), (0, .ref oM), (1, .long wd)]) hx hb d_Model_say_171 hl (by decide) rfl (fun ls hl => ?_)
            refine lv_goto (tgt := 117) hx hb d_Model_say_173 (by decide) ?_
            exact ih (k_ - 8) xt xl xf (SJ_n hJ c_3 c_7) (bc_k hn c_3) hF _ _ _ (hP.sub [0, 1] rfl) (hD.sub [0, 1] (by decide) rfl) hS (lv_sub hl [0, 2, 3] rfl)
          · have hF := hF.trans (if_neg c_7)
            have tc_7 := ti_ne (Eq.refl (((wd >>> (k_.toInt64 &&& 63)) &&& 255).toInt32).toInt) (show (0 : Int32).toInt = 0 by decide) c_7
            refine lv_aload_n hx hb d_Model_say_145 rfl (lv_at hl 2 rfl) ?_
            refine va_get (D := (dC, dI)) (ci := 8) (v := .ref mT) (C := "PermitRulesModel") (T := T_Model) (N := 40) hx hb htb in_Model hown hK hP 0 rfl rfl 1 (by decide) (htb _ mb_654) (fun _ h9 => h9) rfl d_Model_say_146 ?_
            refine lv_aload_n hx hb d_Model_say_149 rfl (lv_at hl 2 rfl) ?_
            refine va_get (D := (dC, dI)) (ci := 8) (v := .int xl) (C := "PermitRulesModel") (T := T_Model) (N := 40) hx hb htb in_Model hown hK hP 0 rfl rfl 2 (by decide) (htb _ mb_655) (fun _ h9 => h9) rfl d_Model_say_150 ?_
            refine lv_iload hx hb d_Model_say_153 (lv_at hl 0 rfl) ?_
            refine va_iast hx hb hK hP hD hS 1 1 rfl rfl (sj_in hJ c_3 c_5 c_7) d_Model_say_155 (fun H locs hP hD hS => ?_)
            have hP : va_P (dC, dI) vwCl [(oM, .inr (8, [.int xt, .ref mT, .int xl, .int ma, .int mk, .int mp, .long mv, .int mw, .ref mN, .ref mD, .ref mF, .ref mS, .ref mL, .ref mR, .ref mE, .ref mK, .ref mV, .int dr, .int dc, .int ds, .int ru, .int cl, .ref mO, .int os, .int fc, .ref mA, .ref mB, .ref mU, .ref mW, .int pi, .int wh, .long ms, .int aq, .int da, .ref mX, .ref mY, .long lu, .long ld, .long qu, .long qd])), (mT, .inl (cI, 800, .inl (upd xf xl.toNatClampNeg (((wd >>> (k_.toInt64 &&& 63)) &&& 255).toInt32))))] H := hP
            have hD : va_D A [(oM, .inr (8, [.int xt, .ref mT, .int xl, .int ma, .int mk, .int mp, .long mv, .int mw, .ref mN, .ref mD, .ref mF, .ref mS, .ref mL, .ref mR, .ref mE, .ref mK, .ref mV, .int dr, .int dc, .int ds, .int ru, .int cl, .ref mO, .int os, .int fc, .ref mA, .ref mB, .ref mU, .ref mW, .int pi, .int wh, .long ms, .int aq, .int da, .ref mX, .ref mY, .long lu, .long ld, .long qu, .long qd])), (mT, .inl (cI, 800, .inl (upd xf xl.toNatClampNeg (((wd >>> (k_.toInt64 &&& 63)) &&& 255).toInt32))))] := hD
            refine lv_aload_n hx hb d_Model_say_156 rfl (lv_at hl 2 rfl) ?_
            refine lv_dup hx hb d_Model_say_157 rfl ?_
            refine va_get (D := (dC, dI)) (ci := 8) (v := .int xl) (C := "PermitRulesModel") (T := T_Model) (N := 40) hx hb htb in_Model hown hK hP 0 rfl rfl 2 (by decide) (htb _ mb_655) (fun _ h9 => h9) rfl d_Model_say_158 ?_
            refine lv_iconst (v := 1) hx hb d_Model_say_161 (by decide) ?_
            refine lv_iadd hx hb d_Model_say_162 ?_
            refine va_put (D := (dC, dI)) (ci := 8) (v := .int (xl + 1)) (ty := .int) (C := "PermitRulesModel") (T := T_Model) (N := 40) hx hb htb in_Model ty_Model to_Model nm_Model hown hK hP hD hS 0 rfl rfl 2 (by decide) (htb _ mb_655) (fun _ h9 => h9) rfl (by decide +kernel) rfl rfl (Nat.le_of_ble_eq_true rfl) d_Model_say_163 (fun H locs hP hD hS => ?_)
            have hP : va_P (dC, dI) vwCl [(oM, .inr (8, [.int xt, .ref mT, .int (xl + 1), .int ma, .int mk, .int mp, .long mv, .int mw, .ref mN, .ref mD, .ref mF, .ref mS, .ref mL, .ref mR, .ref mE, .ref mK, .ref mV, .int dr, .int dc, .int ds, .int ru, .int cl, .ref mO, .int os, .int fc, .ref mA, .ref mB, .ref mU, .ref mW, .int pi, .int wh, .long ms, .int aq, .int da, .ref mX, .ref mY, .long lu, .long ld, .long qu, .long qd])), (mT, .inl (cI, 800, .inl (upd xf xl.toNatClampNeg (((wd >>> (k_.toInt64 &&& 63)) &&& 255).toInt32))))] H := hP
            have hD : va_D A [(oM, .inr (8, [.int xt, .ref mT, .int (xl + 1), .int ma, .int mk, .int mp, .long mv, .int mw, .ref mN, .ref mD, .ref mF, .ref mS, .ref mL, .ref mR, .ref mE, .ref mK, .ref mV, .int dr, .int dc, .int ds, .int ru, .int cl, .ref mO, .int os, .int fc, .ref mA, .ref mB, .ref mU, .ref mW, .int pi, .int wh, .long ms, .int aq, .int da, .ref mX, .ref mY, .long lu, .long ld, .long qu, .long qd])), (mT, .inl (cI, 800, .inl (upd xf xl.toNatClampNeg (((wd >>> (k_.toInt64 &&& 63)) &&& 255).toInt32))))] := hD
            refine lv_iload hx hb d_Model_say_166 (lv_at hl 1 rfl) ?_
            refine lv_bipush (v := 8) hx hb d_Model_say_168 (by decide) ?_
            refine lv_isub hx hb d_Model_say_170 ?_
            refine lv_istore (lv' := [(4, .int (k_ - 8)), (5, .int (((wd >>> (k_.toInt64 &&& 63)) &&& 255).toInt32)), (0, .ref oM), (1, .long wd)]) hx hb d_Model_say_171 hl (by decide) rfl (fun ls hl => ?_)
            refine lv_goto (tgt := 117) hx hb d_Model_say_173 (by decide) ?_
            exact ih (k_ - 8) xt (xl + 1) (upd xf xl.toNatClampNeg (((wd >>> (k_.toInt64 &&& 63)) &&& 255).toInt32)) (SJ_y hJ c_3 c_5 c_7) (bc_k hn c_3) hF _ _ _ (hP.sub [0, 1] rfl) (hD.sub [0, 1] (by decide) rfl) hS (lv_sub hl [0, 2, 3] rfl)
  have lp11 : ∀ (n : Nat) (k_ : Int32) (mo : Int32) (xt : Int32), SI wd k_ mo → ((k_.toInt + 8).toNat / 8) < n → f_Model_say wd ml mt = f_Model_say_L11 wd ml mt n k_ mo xt → ∀ (H : Heap) (locs : List Loc) (ls : Array Slot), va_P (dC, dI) vwCl [(oM, .inr (8, [.int xt, .ref mT, .int ml, .int ma, .int mk, .int mp, .long mv, .int mw, .ref mN, .ref mD, .ref mF, .ref mS, .ref mL, .ref mR, .ref mE, .ref mK, .ref mV, .int dr, .int dc, .int ds, .int ru, .int cl, .ref mO, .int os, .int fc, .ref mA, .ref mB, .ref mU, .ref mW, .int pi, .int wh, .long ms, .int aq, .int da, .ref mX, .ref mY, .long lu, .long ld, .long qu, .long qd])), (mT, .inl (cI, 800, .inl mt))] H → va_D A [(oM, .inr (8, [.int xt, .ref mT, .int ml, .int ma, .int mk, .int mp, .long mv, .int mw, .ref mN, .ref mD, .ref mF, .ref mS, .ref mL, .ref mR, .ref mE, .ref mK, .ref mV, .int dr, .int dc, .int ds, .int ru, .int cl, .ref mO, .int os, .int fc, .ref mA, .ref mB, .ref mU, .ref mW, .int pi, .int wh, .long ms, .int aq, .int da, .ref mX, .ref mY, .long lu, .long ld, .long qu, .long qd])), (mT, .inl (cI, 800, .inl mt))] → va_S A s.heap H locs → lv_has ls 6 [(4, .int k_), (3, .int mo), (0, .ref oM), (1, .long wd)] → W p l e (headSpec (cw_Model_say :: bgw) { frames := 1, cells := 0, slots := 0, locals := 25 }).room s m ([.ref oM, .long wd] : List Value).toArray below meth c H locs 0 0 (MQ below (q_Model_say dC dI cB cI cJ oM mT mN mD mF mS mL mR mE mK mV mO mA mB mU mW mX mY wd th ml ma mk mp mv mw dr dc ds ru cl os fc pi wh ms aq da lu ld qu qd mt A) ([.ref oM, .long wd] : List Value).toArray s 0 0 A) (F0 m 11 ls []) := by
    intro n
    induction n with
    | zero => intro k_ mo xt hI hn; exact absurd hn (Nat.not_lt_zero _)
    | succ n ih =>
      intro k_ mo xt hI hn hF H locs ls hP hD hS hl
      have hF := hF.trans (f_Model_say_L11_s wd ml mt n k_ mo xt)
      refine lv_iload hx hb d_Model_say_11 (lv_at hl 0 rfl) ?_
      refine lv_if_lt (tgt := 82) hx hb d_Model_say_13 (by decide) (fun c_1 => ?_) (fun c_1 => ?_)
      · have hF := hF.trans (if_pos c_1)
        have tc_1 := ti_lt (Eq.refl k_.toInt) (show (0 : Int32).toInt = 0 by decide) c_1
        refine lv_aload_n hx hb d_Model_say_82 rfl (lv_at hl 2 rfl) ?_
        refine lv_aload_n hx hb d_Model_say_83 rfl (lv_at hl 2 rfl) ?_
        refine va_get (D := (dC, dI)) (ci := 8) (v := .int xt) (C := "PermitRulesModel") (T := T_Model) (N := 40) hx hb htb in_Model hown hK hP 0 rfl rfl 0 (by decide) (htb _ mb_653) (fun _ h9 => h9) rfl d_Model_say_84 ?_
        refine lv_if_ne (tgt := 106) hx hb d_Model_say_87 (by decide) (fun c_2 => ?_) (fun c_2 => ?_)
        · have hF := hF.trans (if_neg c_2)
          have tc_2 := ti_ne (Eq.refl xt.toInt) (show (0 : Int32).toInt = 0 by decide) c_2
          refine lv_aload_n hx hb d_Model_say_106 rfl (lv_at hl 2 rfl) ?_
          refine va_get (D := (dC, dI)) (ci := 8) (v := .int xt) (C := "PermitRulesModel") (T := T_Model) (N := 40) hx hb htb in_Model hown hK hP 0 rfl rfl 0 (by decide) (htb _ mb_653) (fun _ h9 => h9) rfl d_Model_say_107 ?_
          refine va_put (D := (dC, dI)) (ci := 8) (v := .int xt) (ty := .int) (C := "PermitRulesModel") (T := T_Model) (N := 40) hx hb htb in_Model ty_Model to_Model nm_Model hown hK hP hD hS 0 rfl rfl 0 (by decide) (htb _ mb_653) (fun _ h9 => h9) rfl (by decide +kernel) rfl rfl (Nat.le_of_ble_eq_true rfl) d_Model_say_110 (fun H locs hP hD hS => ?_)
          have hP : va_P (dC, dI) vwCl [(oM, .inr (8, [.int xt, .ref mT, .int ml, .int ma, .int mk, .int mp, .long mv, .int mw, .ref mN, .ref mD, .ref mF, .ref mS, .ref mL, .ref mR, .ref mE, .ref mK, .ref mV, .int dr, .int dc, .int ds, .int ru, .int cl, .ref mO, .int os, .int fc, .ref mA, .ref mB, .ref mU, .ref mW, .int pi, .int wh, .long ms, .int aq, .int da, .ref mX, .ref mY, .long lu, .long ld, .long qu, .long qd])), (mT, .inl (cI, 800, .inl mt))] H := hP
          have hD : va_D A [(oM, .inr (8, [.int xt, .ref mT, .int ml, .int ma, .int mk, .int mp, .long mv, .int mw, .ref mN, .ref mD, .ref mF, .ref mS, .ref mL, .ref mR, .ref mE, .ref mK, .ref mV, .int dr, .int dc, .int ds, .int ru, .int cl, .ref mO, .int os, .int fc, .ref mA, .ref mB, .ref mU, .ref mW, .int pi, .int wh, .long ms, .int aq, .int da, .ref mX, .ref mY, .long lu, .long ld, .long qu, .long qd])), (mT, .inl (cI, 800, .inl mt))] := hD
          refine lv_bipush (v := 56) hx hb d_Model_say_113 (by decide) ?_
          refine lv_istore (lv' := [(4, .int 56), (3, .int mo), (0, .ref oM), (1, .long wd)]) hx hb d_Model_say_115 hl (by decide) rfl (fun ls hl => ?_)
          exact lp117 9 56 xt ml mt (SJ_x h0 c_2) (by decide) hF _ _ _ (hP.sub [0, 1] rfl) (hD.sub [0, 1] (by decide) rfl) hS (lv_sub hl [0, 2, 3] rfl)
        · have hF := hF.trans (if_pos c_2)
          have tc_2 := ti_eq (Eq.refl xt.toInt) (show (0 : Int32).toInt = 0 by decide) c_2
          refine lv_aload_n hx hb d_Model_say_90 rfl (lv_at hl 2 rfl) ?_
          refine va_get (D := (dC, dI)) (ci := 8) (v := .int ml) (C := "PermitRulesModel") (T := T_Model) (N := 40) hx hb htb in_Model hown hK hP 0 rfl rfl 2 (by decide) (htb _ mb_655) (fun _ h9 => h9) rfl d_Model_say_91 ?_
          refine lv_iload_n hx hb d_Model_say_94 rfl (lv_at hl 1 rfl) ?_
          refine lv_iadd hx hb d_Model_say_95 ?_
          refine lv_sipush (v := 800) hx hb d_Model_say_96 (by decide) ?_
          refine lv_icmp_le (tgt := 106) hx hb d_Model_say_99 (by decide) (fun c_8 => ?_) (fun c_8 => ?_)
          · have hF := hF.trans (if_pos c_8)
            refine lv_aload_n hx hb d_Model_say_106 rfl (lv_at hl 2 rfl) ?_
            refine va_get (D := (dC, dI)) (ci := 8) (v := .int xt) (C := "PermitRulesModel") (T := T_Model) (N := 40) hx hb htb in_Model hown hK hP 0 rfl rfl 0 (by decide) (htb _ mb_653) (fun _ h9 => h9) rfl d_Model_say_107 ?_
            refine va_put (D := (dC, dI)) (ci := 8) (v := .int xt) (ty := .int) (C := "PermitRulesModel") (T := T_Model) (N := 40) hx hb htb in_Model ty_Model to_Model nm_Model hown hK hP hD hS 0 rfl rfl 0 (by decide) (htb _ mb_653) (fun _ h9 => h9) rfl (by decide +kernel) rfl rfl (Nat.le_of_ble_eq_true rfl) d_Model_say_110 (fun H locs hP hD hS => ?_)
            have hP : va_P (dC, dI) vwCl [(oM, .inr (8, [.int xt, .ref mT, .int ml, .int ma, .int mk, .int mp, .long mv, .int mw, .ref mN, .ref mD, .ref mF, .ref mS, .ref mL, .ref mR, .ref mE, .ref mK, .ref mV, .int dr, .int dc, .int ds, .int ru, .int cl, .ref mO, .int os, .int fc, .ref mA, .ref mB, .ref mU, .ref mW, .int pi, .int wh, .long ms, .int aq, .int da, .ref mX, .ref mY, .long lu, .long ld, .long qu, .long qd])), (mT, .inl (cI, 800, .inl mt))] H := hP
            have hD : va_D A [(oM, .inr (8, [.int xt, .ref mT, .int ml, .int ma, .int mk, .int mp, .long mv, .int mw, .ref mN, .ref mD, .ref mF, .ref mS, .ref mL, .ref mR, .ref mE, .ref mK, .ref mV, .int dr, .int dc, .int ds, .int ru, .int cl, .ref mO, .int os, .int fc, .ref mA, .ref mB, .ref mU, .ref mW, .int pi, .int wh, .long ms, .int aq, .int da, .ref mX, .ref mY, .long lu, .long ld, .long qu, .long qd])), (mT, .inl (cI, 800, .inl mt))] := hD
            refine lv_bipush (v := 56) hx hb d_Model_say_113 (by decide) ?_
            refine lv_istore (lv' := [(4, .int 56), (3, .int mo), (0, .ref oM), (1, .long wd)]) hx hb d_Model_say_115 hl (by decide) rfl (fun ls hl => ?_)
            exact lp117 9 56 xt ml mt (SJ_0 hI c_1 h0 hL c_8) (by decide) hF _ _ _ (hP.sub [0, 1] rfl) (hD.sub [0, 1] (by decide) rfl) hS (lv_sub hl [0, 2, 3] rfl)
          · have hF := hF.trans (if_neg c_8)
            refine lv_iconst (v := 2) hx hb d_Model_say_102 (by decide) ?_
            refine lv_goto (tgt := 110) hx hb d_Model_say_103 (by decide) ?_
            refine va_put (D := (dC, dI)) (ci := 8) (v := .int 2) (ty := .int) (C := "PermitRulesModel") (T := T_Model) (N := 40) hx hb htb in_Model ty_Model to_Model nm_Model hown hK hP hD hS 0 rfl rfl 0 (by decide) (htb _ mb_653) (fun _ h9 => h9) rfl (by decide +kernel) rfl rfl (Nat.le_of_ble_eq_true rfl) d_Model_say_110 (fun H locs hP hD hS => ?_)
            have hP : va_P (dC, dI) vwCl [(oM, .inr (8, [.int 2, .ref mT, .int ml, .int ma, .int mk, .int mp, .long mv, .int mw, .ref mN, .ref mD, .ref mF, .ref mS, .ref mL, .ref mR, .ref mE, .ref mK, .ref mV, .int dr, .int dc, .int ds, .int ru, .int cl, .ref mO, .int os, .int fc, .ref mA, .ref mB, .ref mU, .ref mW, .int pi, .int wh, .long ms, .int aq, .int da, .ref mX, .ref mY, .long lu, .long ld, .long qu, .long qd])), (mT, .inl (cI, 800, .inl mt))] H := hP
            have hD : va_D A [(oM, .inr (8, [.int 2, .ref mT, .int ml, .int ma, .int mk, .int mp, .long mv, .int mw, .ref mN, .ref mD, .ref mF, .ref mS, .ref mL, .ref mR, .ref mE, .ref mK, .ref mV, .int dr, .int dc, .int ds, .int ru, .int cl, .ref mO, .int os, .int fc, .ref mA, .ref mB, .ref mU, .ref mW, .int pi, .int wh, .long ms, .int aq, .int da, .ref mX, .ref mY, .long lu, .long ld, .long qu, .long qd])), (mT, .inl (cI, 800, .inl mt))] := hD
            refine lv_bipush (v := 56) hx hb d_Model_say_113 (by decide) ?_
            refine lv_istore (lv' := [(4, .int 56), (3, .int mo), (0, .ref oM), (1, .long wd)]) hx hb d_Model_say_115 hl (by decide) rfl (fun ls hl => ?_)
            exact lp117 9 56 2 ml mt (SJ_x h0 (by decide)) (by decide) hF _ _ _ (hP.sub [0, 1] rfl) (hD.sub [0, 1] (by decide) rfl) hS (lv_sub hl [0, 2, 3] rfl)
      · have hF := hF.trans (if_neg c_1)
        have tc_1 := ti_nlt (Eq.refl k_.toInt) (show (0 : Int32).toInt = 0 by decide) c_1
        refine lv_lload_n hx hb d_Model_say_16 rfl (lv_at hl 3 rfl) ?_
        refine lv_iload hx hb d_Model_say_17 (lv_at hl 0 rfl) ?_
        refine lv_lshr (v := wd >>> (k_.toInt64 &&& 63)) hx hb d_Model_say_19 rfl ?_
        refine lv_ldc2 (v := 255) hx hb hown (htb _ mb_782) d_Model_say_20 ?_
        refine lv_land hx hb d_Model_say_23 ?_
        refine lv_l2i (v := ((wd >>> (k_.toInt64 &&& 63)) &&& 255).toInt32) hx hb d_Model_say_24 rfl ?_
        refine lv_istore (lv' := [(5, .int (((wd >>> (k_.toInt64 &&& 63)) &&& 255).toInt32)), (4, .int k_), (3, .int mo), (0, .ref oM), (1, .long wd)]) hx hb d_Model_say_25 hl (by decide) rfl (fun ls hl => ?_)
        refine lv_aload_n hx hb d_Model_say_27 rfl (lv_at hl 3 rfl) ?_
        refine lv_iload hx hb d_Model_say_28 (lv_at hl 0 rfl) ?_
        refine lv_if_eq (tgt := 52) hx hb d_Model_say_30 (by decide) (fun c_9 => ?_) (fun c_9 => ?_)
        · have hF := hF.trans (if_pos c_9)
          have tc_9 := ti_eq (Eq.refl (((wd >>> (k_.toInt64 &&& 63)) &&& 255).toInt32).toInt) (show (0 : Int32).toInt = 0 by decide) c_9
          refine lv_aload_n hx hb d_Model_say_52 rfl (lv_at hl 3 rfl) ?_
          refine va_get (D := (dC, dI)) (ci := 8) (v := .int xt) (C := "PermitRulesModel") (T := T_Model) (N := 40) hx hb htb in_Model hown hK hP 0 rfl rfl 0 (by decide) (htb _ mb_653) (fun _ h9 => h9) rfl d_Model_say_53 ?_
          refine va_put (D := (dC, dI)) (ci := 8) (v := .int xt) (ty := .int) (C := "PermitRulesModel") (T := T_Model) (N := 40) hx hb htb in_Model ty_Model to_Model nm_Model hown hK hP hD hS 0 rfl rfl 0 (by decide) (htb _ mb_653) (fun _ h9 => h9) rfl (by decide +kernel) rfl rfl (Nat.le_of_ble_eq_true rfl) d_Model_say_56 (fun H locs hP hD hS => ?_)
          have hP : va_P (dC, dI) vwCl [(oM, .inr (8, [.int xt, .ref mT, .int ml, .int ma, .int mk, .int mp, .long mv, .int mw, .ref mN, .ref mD, .ref mF, .ref mS, .ref mL, .ref mR, .ref mE, .ref mK, .ref mV, .int dr, .int dc, .int ds, .int ru, .int cl, .ref mO, .int os, .int fc, .ref mA, .ref mB, .ref mU, .ref mW, .int pi, .int wh, .long ms, .int aq, .int da, .ref mX, .ref mY, .long lu, .long ld, .long qu, .long qd])), (mT, .inl (cI, 800, .inl mt))] H := hP
          have hD : va_D A [(oM, .inr (8, [.int xt, .ref mT, .int ml, .int ma, .int mk, .int mp, .long mv, .int mw, .ref mN, .ref mD, .ref mF, .ref mS, .ref mL, .ref mR, .ref mE, .ref mK, .ref mV, .int dr, .int dc, .int ds, .int ru, .int cl, .ref mO, .int os, .int fc, .ref mA, .ref mB, .ref mU, .ref mW, .int pi, .int wh, .long ms, .int aq, .int da, .ref mX, .ref mY, .long lu, .long ld, .long qu, .long qd])), (mT, .inl (cI, 800, .inl mt))] := hD
          refine lv_iload hx hb d_Model_say_59 (lv_at hl 0 rfl) ?_
          refine lv_if_eq (tgt := 70) hx hb d_Model_say_61 (by decide) (fun c_10 => ?_) (fun c_10 => ?_)
          · have hF := hF.trans (if_pos c_10)
            have tc_10 := ti_eq (Eq.refl (((wd >>> (k_.toInt64 &&& 63)) &&& 255).toInt32).toInt) (show (0 : Int32).toInt = 0 by decide) c_10
            refine lv_iload_n hx hb d_Model_say_70 rfl (lv_at hl 2 rfl) ?_
            refine lv_istore_n (lv' := [(3, .int mo), (5, .int (((wd >>> (k_.toInt64 &&& 63)) &&& 255).toInt32)), (4, .int k_), (0, .ref oM), (1, .long wd)]) hx hb d_Model_say_71 rfl hl (by decide) rfl (fun ls hl => ?_)
            refine lv_iload hx hb d_Model_say_72 (lv_at hl 2 rfl) ?_
            refine lv_bipush (v := 8) hx hb d_Model_say_74 (by decide) ?_
            refine lv_isub hx hb d_Model_say_76 ?_
            refine lv_istore (lv' := [(4, .int (k_ - 8)), (3, .int mo), (5, .int (((wd >>> (k_.toInt64 &&& 63)) &&& 255).toInt32)), (0, .ref oM), (1, .long wd)]) hx hb d_Model_say_77 hl (by decide) rfl (fun ls hl => ?_)
            refine lv_goto (tgt := 11) hx hb d_Model_say_79 (by decide) ?_
            exact ih (k_ - 8) mo xt (SI_n hI c_1 c_10) (bc_k hn c_1) hF _ _ _ (hP.sub [0, 1] rfl) (hD.sub [0, 1] (by decide) rfl) hS (lv_sub hl [0, 1, 3, 4] rfl)
          · have hF := hF.trans (if_neg c_10)
            have tc_10 := ti_ne (Eq.refl (((wd >>> (k_.toInt64 &&& 63)) &&& 255).toInt32).toInt) (show (0 : Int32).toInt = 0 by decide) c_10
            refine lv_iload_n hx hb d_Model_say_64 rfl (lv_at hl 2 rfl) ?_
            refine lv_iconst (v := 1) hx hb d_Model_say_65 (by decide) ?_
            refine lv_iadd hx hb d_Model_say_66 ?_
            refine lv_goto (tgt := 71) hx hb d_Model_say_67 (by decide) ?_
            refine lv_istore_n (lv' := [(3, .int (mo + 1)), (5, .int (((wd >>> (k_.toInt64 &&& 63)) &&& 255).toInt32)), (4, .int k_), (0, .ref oM), (1, .long wd)]) hx hb d_Model_say_71 rfl hl (by decide) rfl (fun ls hl => ?_)
            refine lv_iload hx hb d_Model_say_72 (lv_at hl 2 rfl) ?_
            refine lv_bipush (v := 8) hx hb d_Model_say_74 (by decide) ?_
            refine lv_isub hx hb d_Model_say_76 ?_
            refine lv_istore (lv' := [(4, .int (k_ - 8)), (3, .int (mo + 1)), (5, .int (((wd >>> (k_.toInt64 &&& 63)) &&& 255).toInt32)), (0, .ref oM), (1, .long wd)]) hx hb d_Model_say_77 hl (by decide) rfl (fun ls hl => ?_)
            refine lv_goto (tgt := 11) hx hb d_Model_say_79 (by decide) ?_
            exact ih (k_ - 8) (mo + 1) xt (SI_y hI c_1 c_10) (bc_k hn c_1) hF _ _ _ (hP.sub [0, 1] rfl) (hD.sub [0, 1] (by decide) rfl) hS (lv_sub hl [0, 1, 3, 4] rfl)
        · have hF := hF.trans (if_neg c_9)
          have tc_9 := ti_ne (Eq.refl (((wd >>> (k_.toInt64 &&& 63)) &&& 255).toInt32).toInt) (show (0 : Int32).toInt = 0 by decide) c_9
          refine lv_iload hx hb d_Model_say_33 (lv_at hl 0 rfl) ?_
          refine lv_i2l (v := (((wd >>> (k_.toInt64 &&& 63)) &&& 255).toInt32).toInt64) hx hb d_Model_say_35 rfl ?_
          refine lv_ldc2 (v := 32) hx hb hown (htb _ mb_783) d_Model_say_36 ?_
          refine lv_ldc2 (v := 126) hx hb hown (htb _ mb_784) d_Model_say_39 ?_
          have hPc := hP.sub (ws' := []) [] rfl
          have hDc := hD.sub (ws' := []) [] (by decide) rfl
          have hFc := va_free (wc := []) hD hS hA [] rfl
          refine va_calli (va_runS (As := [.long ((((wd >>> (k_.toInt64 &&& 63)) &&& 255).toInt32).toInt64), .long 32, .long 126]) (rest := [.ref oM]) ⟨hx, hb, hml, hown, htb⟩ (c_Model_in l dC dI cB cI cJ  _ ((((wd >>> (k_.toInt64 &&& 63)) &&& 255).toInt32).toInt64) 32 126 ) ⟨callB_of 3 htb (gb_all mb_787) rfl rfl rfl (htb _ mb_9) (htb _ mb_785) (by decide +kernel) ⟨Nat.le_of_ble_eq_true rfl, Nat.le_of_ble_eq_true rfl⟩, htb _ mb_786⟩ ⟨kb_blind, kb_at hPc hDc hKx⟩ rfl rfl hl.1 rfl (lv_room (Nat.le_of_ble_eq_true rfl)) d_Model_say_42 ⟨Nat.le_of_ble_eq_true rfl, Nat.le_of_ble_eq_true rfl⟩) hS (fun q _ h => hFc q h) hFc (fun z_11 u t H1 locs ht hvm hw hB hz1 hk1 hS => ?_)
          have hz_11 := hw
          have hF := hF.trans (lt_e hz_11)
          obtain ⟨hP1, hD1⟩ := hB
          rw [ht] at hP1
          obtain ⟨hP, hD⟩ := va_join (wr := [(oM, .inr (8, [.int xt, .ref mT, .int ml, .int ma, .int mk, .int mp, .long mv, .int mw, .ref mN, .ref mD, .ref mF, .ref mS, .ref mL, .ref mR, .ref mE, .ref mK, .ref mV, .int dr, .int dc, .int ds, .int ru, .int cl, .ref mO, .int os, .int fc, .ref mA, .ref mB, .ref mU, .ref mW, .int pi, .int wh, .long ms, .int aq, .int da, .ref mX, .ref mY, .long lu, .long ld, .long qu, .long qd])), (mT, .inl (cI, 800, .inl mt))]) (w1 := []) hP hD [] [0, 1] rfl rfl (by decide) (by decide) hk1 hFc hP1 hD1
          generalize H1 = H at hP hS ⊢
          have hP : va_P (dC, dI) vwCl [(oM, .inr (8, [.int xt, .ref mT, .int ml, .int ma, .int mk, .int mp, .long mv, .int mw, .ref mN, .ref mD, .ref mF, .ref mS, .ref mL, .ref mR, .ref mE, .ref mK, .ref mV, .int dr, .int dc, .int ds, .int ru, .int cl, .ref mO, .int os, .int fc, .ref mA, .ref mB, .ref mU, .ref mW, .int pi, .int wh, .long ms, .int aq, .int da, .ref mX, .ref mY, .long lu, .long ld, .long qu, .long qd])), (mT, .inl (cI, 800, .inl mt))] H := hP
          have hD : va_D A [(oM, .inr (8, [.int xt, .ref mT, .int ml, .int ma, .int mk, .int mp, .long mv, .int mw, .ref mN, .ref mD, .ref mF, .ref mS, .ref mL, .ref mR, .ref mE, .ref mK, .ref mV, .int dr, .int dc, .int ds, .int ru, .int cl, .ref mO, .int os, .int fc, .ref mA, .ref mB, .ref mU, .ref mW, .int pi, .int wh, .long ms, .int aq, .int da, .ref mX, .ref mY, .long lu, .long ld, .long qu, .long qd])), (mT, .inl (cI, 800, .inl mt))] := hD
          refine lv_if_ne (tgt := 52) hx hb d_Model_say_45 (by decide) (fun c_12 => ?_) (fun c_12 => ?_)
          · have hF := hF.trans (if_neg c_12)
            have tc_12 := ti_ne (Eq.refl z_11.toInt) (show (0 : Int32).toInt = 0 by decide) c_12
            refine lv_aload_n hx hb d_Model_say_52 rfl (lv_at hl 3 rfl) ?_
            refine va_get (D := (dC, dI)) (ci := 8) (v := .int xt) (C := "PermitRulesModel") (T := T_Model) (N := 40) hx hb htb in_Model hown hK hP 0 rfl rfl 0 (by decide) (htb _ mb_653) (fun _ h9 => h9) rfl d_Model_say_53 ?_
            refine va_put (D := (dC, dI)) (ci := 8) (v := .int xt) (ty := .int) (C := "PermitRulesModel") (T := T_Model) (N := 40) hx hb htb in_Model ty_Model to_Model nm_Model hown hK hP hD hS 0 rfl rfl 0 (by decide) (htb _ mb_653) (fun _ h9 => h9) rfl (by decide +kernel) rfl rfl (Nat.le_of_ble_eq_true rfl) d_Model_say_56 (fun H locs hP hD hS => ?_)
            have hP : va_P (dC, dI) vwCl [(oM, .inr (8, [.int xt, .ref mT, .int ml, .int ma, .int mk, .int mp, .long mv, .int mw, .ref mN, .ref mD, .ref mF, .ref mS, .ref mL, .ref mR, .ref mE, .ref mK, .ref mV, .int dr, .int dc, .int ds, .int ru, .int cl, .ref mO, .int os, .int fc, .ref mA, .ref mB, .ref mU, .ref mW, .int pi, .int wh, .long ms, .int aq, .int da, .ref mX, .ref mY, .long lu, .long ld, .long qu, .long qd])), (mT, .inl (cI, 800, .inl mt))] H := hP
            have hD : va_D A [(oM, .inr (8, [.int xt, .ref mT, .int ml, .int ma, .int mk, .int mp, .long mv, .int mw, .ref mN, .ref mD, .ref mF, .ref mS, .ref mL, .ref mR, .ref mE, .ref mK, .ref mV, .int dr, .int dc, .int ds, .int ru, .int cl, .ref mO, .int os, .int fc, .ref mA, .ref mB, .ref mU, .ref mW, .int pi, .int wh, .long ms, .int aq, .int da, .ref mX, .ref mY, .long lu, .long ld, .long qu, .long qd])), (mT, .inl (cI, 800, .inl mt))] := hD
            refine lv_iload hx hb d_Model_say_59 (lv_at hl 0 rfl) ?_
            refine lv_if_eq (tgt := 70) hx hb d_Model_say_61 (by decide) (fun c_13 => ?_) (fun c_13 => ?_)
            · have hF := hF.trans (if_pos c_13)
              have tc_13 := ti_eq (Eq.refl (((wd >>> (k_.toInt64 &&& 63)) &&& 255).toInt32).toInt) (show (0 : Int32).toInt = 0 by decide) c_13
              refine lv_iload_n hx hb d_Model_say_70 rfl (lv_at hl 2 rfl) ?_
              refine lv_istore_n (lv' := [(3, .int mo), (5, .int (((wd >>> (k_.toInt64 &&& 63)) &&& 255).toInt32)), (4, .int k_), (0, .ref oM), (1, .long wd)]) hx hb d_Model_say_71 rfl hl (by decide) rfl (fun ls hl => ?_)
              refine lv_iload hx hb d_Model_say_72 (lv_at hl 2 rfl) ?_
              refine lv_bipush (v := 8) hx hb d_Model_say_74 (by decide) ?_
              refine lv_isub hx hb d_Model_say_76 ?_
              refine lv_istore (lv' := [(4, .int (k_ - 8)), (3, .int mo), (5, .int (((wd >>> (k_.toInt64 &&& 63)) &&& 255).toInt32)), (0, .ref oM), (1, .long wd)]) hx hb d_Model_say_77 hl (by decide) rfl (fun ls hl => ?_)
              refine lv_goto (tgt := 11) hx hb d_Model_say_79 (by decide) ?_
              exact ih (k_ - 8) mo xt (SI_n hI c_1 c_13) (bc_k hn c_1) hF _ _ _ (hP.sub [0, 1] rfl) (hD.sub [0, 1] (by decide) rfl) hS (lv_sub hl [0, 1, 3, 4] rfl)
            · have hF := hF.trans (if_neg c_13)
              have tc_13 := ti_ne (Eq.refl (((wd >>> (k_.toInt64 &&& 63)) &&& 255).toInt32).toInt) (show (0 : Int32).toInt = 0 by decide) c_13
              refine lv_iload_n hx hb d_Model_say_64 rfl (lv_at hl 2 rfl) ?_
              refine lv_iconst (v := 1) hx hb d_Model_say_65 (by decide) ?_
              refine lv_iadd hx hb d_Model_say_66 ?_
              refine lv_goto (tgt := 71) hx hb d_Model_say_67 (by decide) ?_
              refine lv_istore_n (lv' := [(3, .int (mo + 1)), (5, .int (((wd >>> (k_.toInt64 &&& 63)) &&& 255).toInt32)), (4, .int k_), (0, .ref oM), (1, .long wd)]) hx hb d_Model_say_71 rfl hl (by decide) rfl (fun ls hl => ?_)
              refine lv_iload hx hb d_Model_say_72 (lv_at hl 2 rfl) ?_
              refine lv_bipush (v := 8) hx hb d_Model_say_74 (by decide) ?_
              refine lv_isub hx hb d_Model_say_76 ?_
              refine lv_istore (lv' := [(4, .int (k_ - 8)), (3, .int (mo + 1)), (5, .int (((wd >>> (k_.toInt64 &&& 63)) &&& 255).toInt32)), (0, .ref oM), (1, .long wd)]) hx hb d_Model_say_77 hl (by decide) rfl (fun ls hl => ?_)
              refine lv_goto (tgt := 11) hx hb d_Model_say_79 (by decide) ?_
              exact ih (k_ - 8) (mo + 1) xt (SI_y hI c_1 c_13) (bc_k hn c_1) hF _ _ _ (hP.sub [0, 1] rfl) (hD.sub [0, 1] (by decide) rfl) hS (lv_sub hl [0, 1, 3, 4] rfl)
          · have hF := hF.trans (if_pos c_12)
            have tc_12 := ti_eq (Eq.refl z_11.toInt) (show (0 : Int32).toInt = 0 by decide) c_12
            refine lv_iconst (v := 1) hx hb d_Model_say_48 (by decide) ?_
            refine lv_goto (tgt := 56) hx hb d_Model_say_49 (by decide) ?_
            refine va_put (D := (dC, dI)) (ci := 8) (v := .int 1) (ty := .int) (C := "PermitRulesModel") (T := T_Model) (N := 40) hx hb htb in_Model ty_Model to_Model nm_Model hown hK hP hD hS 0 rfl rfl 0 (by decide) (htb _ mb_653) (fun _ h9 => h9) rfl (by decide +kernel) rfl rfl (Nat.le_of_ble_eq_true rfl) d_Model_say_56 (fun H locs hP hD hS => ?_)
            have hP : va_P (dC, dI) vwCl [(oM, .inr (8, [.int 1, .ref mT, .int ml, .int ma, .int mk, .int mp, .long mv, .int mw, .ref mN, .ref mD, .ref mF, .ref mS, .ref mL, .ref mR, .ref mE, .ref mK, .ref mV, .int dr, .int dc, .int ds, .int ru, .int cl, .ref mO, .int os, .int fc, .ref mA, .ref mB, .ref mU, .ref mW, .int pi, .int wh, .long ms, .int aq, .int da, .ref mX, .ref mY, .long lu, .long ld, .long qu, .long qd])), (mT, .inl (cI, 800, .inl mt))] H := hP
            have hD : va_D A [(oM, .inr (8, [.int 1, .ref mT, .int ml, .int ma, .int mk, .int mp, .long mv, .int mw, .ref mN, .ref mD, .ref mF, .ref mS, .ref mL, .ref mR, .ref mE, .ref mK, .ref mV, .int dr, .int dc, .int ds, .int ru, .int cl, .ref mO, .int os, .int fc, .ref mA, .ref mB, .ref mU, .ref mW, .int pi, .int wh, .long ms, .int aq, .int da, .ref mX, .ref mY, .long lu, .long ld, .long qu, .long qd])), (mT, .inl (cI, 800, .inl mt))] := hD
            refine lv_iload hx hb d_Model_say_59 (lv_at hl 0 rfl) ?_
            refine lv_if_eq (tgt := 70) hx hb d_Model_say_61 (by decide) (fun c_14 => ?_) (fun c_14 => ?_)
            · have hF := hF.trans (if_pos c_14)
              have tc_14 := ti_eq (Eq.refl (((wd >>> (k_.toInt64 &&& 63)) &&& 255).toInt32).toInt) (show (0 : Int32).toInt = 0 by decide) c_14
              refine lv_iload_n hx hb d_Model_say_70 rfl (lv_at hl 2 rfl) ?_
              refine lv_istore_n (lv' := [(3, .int mo), (5, .int (((wd >>> (k_.toInt64 &&& 63)) &&& 255).toInt32)), (4, .int k_), (0, .ref oM), (1, .long wd)]) hx hb d_Model_say_71 rfl hl (by decide) rfl (fun ls hl => ?_)
              refine lv_iload hx hb d_Model_say_72 (lv_at hl 2 rfl) ?_
              refine lv_bipush (v := 8) hx hb d_Model_say_74 (by decide) ?_
              refine lv_isub hx hb d_Model_say_76 ?_
              refine lv_istore (lv' := [(4, .int (k_ - 8)), (3, .int mo), (5, .int (((wd >>> (k_.toInt64 &&& 63)) &&& 255).toInt32)), (0, .ref oM), (1, .long wd)]) hx hb d_Model_say_77 hl (by decide) rfl (fun ls hl => ?_)
              refine lv_goto (tgt := 11) hx hb d_Model_say_79 (by decide) ?_
              exact ih (k_ - 8) mo 1 (SI_n hI c_1 c_14) (bc_k hn c_1) hF _ _ _ (hP.sub [0, 1] rfl) (hD.sub [0, 1] (by decide) rfl) hS (lv_sub hl [0, 1, 3, 4] rfl)
            · have hF := hF.trans (if_neg c_14)
              have tc_14 := ti_ne (Eq.refl (((wd >>> (k_.toInt64 &&& 63)) &&& 255).toInt32).toInt) (show (0 : Int32).toInt = 0 by decide) c_14
              refine lv_iload_n hx hb d_Model_say_64 rfl (lv_at hl 2 rfl) ?_
              refine lv_iconst (v := 1) hx hb d_Model_say_65 (by decide) ?_
              refine lv_iadd hx hb d_Model_say_66 ?_
              refine lv_goto (tgt := 71) hx hb d_Model_say_67 (by decide) ?_
              refine lv_istore_n (lv' := [(3, .int (mo + 1)), (5, .int (((wd >>> (k_.toInt64 &&& 63)) &&& 255).toInt32)), (4, .int k_), (0, .ref oM), (1, .long wd)]) hx hb d_Model_say_71 rfl hl (by decide) rfl (fun ls hl => ?_)
              refine lv_iload hx hb d_Model_say_72 (lv_at hl 2 rfl) ?_
              refine lv_bipush (v := 8) hx hb d_Model_say_74 (by decide) ?_
              refine lv_isub hx hb d_Model_say_76 ?_
              refine lv_istore (lv' := [(4, .int (k_ - 8)), (3, .int (mo + 1)), (5, .int (((wd >>> (k_.toInt64 &&& 63)) &&& 255).toInt32)), (0, .ref oM), (1, .long wd)]) hx hb d_Model_say_77 hl (by decide) rfl (fun ls hl => ?_)
              refine lv_goto (tgt := 11) hx hb d_Model_say_79 (by decide) ?_
              exact ih (k_ - 8) (mo + 1) 1 (SI_y hI c_1 c_14) (bc_k hn c_1) hF _ _ _ (hP.sub [0, 1] rfl) (hD.sub [0, 1] (by decide) rfl) hS (lv_sub hl [0, 1, 3, 4] rfl)
  refine lv_aload_n hx hb d_Model_say_0 rfl (lv_at hl 0 rfl) ?_
  refine lv_iconst (v := 0) hx hb d_Model_say_1 (by decide) ?_
  refine va_put (D := (dC, dI)) (ci := 8) (v := .int 0) (ty := .int) (C := "PermitRulesModel") (T := T_Model) (N := 40) hx hb htb in_Model ty_Model to_Model nm_Model hown hK hP hD hS 0 rfl rfl 0 (by decide) (htb _ mb_653) (fun _ h9 => h9) rfl (by decide +kernel) rfl rfl (Nat.le_of_ble_eq_true rfl) d_Model_say_2 (fun H locs hP hD hS => ?_)
  have hP : va_P (dC, dI) vwCl [(oM, .inr (8, [.int 0, .ref mT, .int ml, .int ma, .int mk, .int mp, .long mv, .int mw, .ref mN, .ref mD, .ref mF, .ref mS, .ref mL, .ref mR, .ref mE, .ref mK, .ref mV, .int dr, .int dc, .int ds, .int ru, .int cl, .ref mO, .int os, .int fc, .ref mA, .ref mB, .ref mU, .ref mW, .int pi, .int wh, .long ms, .int aq, .int da, .ref mX, .ref mY, .long lu, .long ld, .long qu, .long qd])), (mT, .inl (cI, 800, .inl mt))] H := hP
  have hD : va_D A [(oM, .inr (8, [.int 0, .ref mT, .int ml, .int ma, .int mk, .int mp, .long mv, .int mw, .ref mN, .ref mD, .ref mF, .ref mS, .ref mL, .ref mR, .ref mE, .ref mK, .ref mV, .int dr, .int dc, .int ds, .int ru, .int cl, .ref mO, .int os, .int fc, .ref mA, .ref mB, .ref mU, .ref mW, .int pi, .int wh, .long ms, .int aq, .int da, .ref mX, .ref mY, .long lu, .long ld, .long qu, .long qd])), (mT, .inl (cI, 800, .inl mt))] := hD
  refine lv_iconst (v := 0) hx hb d_Model_say_5 (by decide) ?_
  refine lv_istore_n (lv' := [(3, .int 0), (0, .ref oM), (1, .long wd)]) hx hb d_Model_say_6 rfl hl (by decide) rfl (fun ls hl => ?_)
  refine lv_bipush (v := 56) hx hb d_Model_say_7 (by decide) ?_
  refine lv_istore (lv' := [(4, .int 56), (3, .int 0), (0, .ref oM), (1, .long wd)]) hx hb d_Model_say_9 hl (by decide) rfl (fun ls hl => ?_)
  exact lp11 9 56 0 0 (SI_0 (by decide)) (by decide) hF _ _ _ (hP.sub [0, 1] rfl) (hD.sub [0, 1] (by decide) rfl) hS (lv_sub hl [0, 1, 2, 3] rfl)
