/-! methods that may throw: the contract's form, the throw itself, the call -/
section XT
variable {p : Program} {l : Launch} {e : Env} {R : Room} {s : State} {m : MethodId} {args : Array Value} {below : List Frame} {meth : Method} {c : Code} {T : State} {H : Heap} {locs : List Loc} {cells slots : Nat}
/-- the walk goes on as if the invocation began at the state where it stands: all that was done lies before it -/
theorem xt_re (X : Stand p l e R s m args below meth c T locs cells slots) {k n : Nat} (hk : cells + k ≤ R.cells) (hn : slots + n ≤ R.slots) :
    Stand p l e { R with cells := k, slots := n } (T.setFrames (.invoking m args :: below)) m args below meth c T [] 0 0 := by
  obtain ⟨g₀, hr⟩ := X.frames_eq
  obtain ⟨th, hth, -⟩ := State.frames_cons hr
  have hcur : T.cur < T.threads.size := State.cur_lt_of_frames hr
  have hF : (T.setFrames (.invoking m args :: below)).frames = .invoking m args :: below := State.frames_setFrames _ hcur
  have hm' : (T.setFrames (.invoking m args :: below)).vm.method? m = some meth := X.method'
  have hU : (T.setFrames (.invoking m args :: below)).localsInUse = s.localsInUse := by
    rw [State.localsInUse_invoking hF hm' X.code, State.localsInUse_invoking X.frames X.method X.code]
  have hh := X.heapHas hk hn
  have hroom : (T.setFrames (.invoking m args :: below)).hasRoom e.platform { R with cells := k, slots := n } = true := by
    have h := X.room
    unfold State.hasRoom at h ⊢
    rw [hU, hF, State.stackLimits_setFrames, X.limits, State.stackBytes_setFrames, X.bytes]
    rw [X.frames] at h
    simp only [Bool.and_eq_true, decide_eq_true_eq] at h ⊢
    exact ⟨⟨⟨⟨h.1.1.1.1, h.1.1.1.2⟩, hh.1⟩, hh.2⟩, X.book⟩
  have hcode : ∀ mm : MethodId, (T.setFrames (.invoking m args :: below)).code? mm = s.code? mm := fun mm => by
    rw [State.code?_eq, State.code?_eq]
    show (T.vm.method? mm).bind _ = _
    rw [X.warmed.alike.method?]
  have hmeth : ∀ mm : MethodId, (T.setFrames (.invoking m args :: below)).vm.method? mm = s.vm.method? mm := fun mm => X.warmed.alike.method? mm
  have hhears : (T.setFrames (.invoking m args :: below)).hears m below = true := by
    have h := X.hears
    revert h
    generalize hT : T.setFrames (.invoking m args :: below) = T0 at hcode hmeth
    intro h
    cases hb : below with
    | nil => rw [hb] at h; simp only [State.hears] at h ⊢; rw [hmeth]; exact h
    | cons f r =>
      rw [hb] at h
      cases f <;> simp only [State.hears] at h ⊢ <;> first | (rw [hcode]; exact h) | (rw [hmeth]; exact h) | exact h
  have hsame : (T.setFrames (.invoking m args :: below)).sameButNew T [] 0 0 := by
    have hc2 : (T.setFrames (.invoking m args :: below)).cur < (T.setFrames (.invoking m args :: below)).threads.size := State.cur_lt_of_frames hF
    obtain ⟨th2, hth2, -⟩ := State.frames_cons hF
    have h := (State.sameButNew.refl (T.setFrames (.invoking m args :: below)) hth2).setFrames T.frames hc2
    rw [State.setFrames_setFrames, State.setFrames_self hth] at h
    exact h
  exact ⟨X.admits, X.cas, X.clock, hF, hroom, hhears, hm', X.code, X.here, X.tail, State.WarmedH.refl _, by rw [State.stackLimits_setFrames], by rw [State.stackBytes_setFrames], hsame⟩
end XT
theorem xt_sf {A B : State} {F : List Frame} {L : List Loc} {k n : Nat} (h : (A.setFrames F).sameButNew B L k n) : A.sameButNew B L k n := by
  obtain ⟨e1, r⟩ := h
  rw [State.setFrames_setFrames] at e1
  exact ⟨e1, r⟩
/-- every cell of statics is as it was -/
def KS (H H' : Heap) : Prop := ∀ (a : Addr) (cell : Cell), H[a]? = some cell → cell.vm.isStatics = true → H'[a]? = some cell
theorem KS.refl (H : Heap) : KS H H := fun _ _ h _ => h
theorem KS.trans {H H1 H2 : Heap} (h : KS H H1) (h' : KS H1 H2) : KS H H2 := fun a c hc hs => h' a c (h a c hc hs) hs
/-- the world's cells are no cells of statics -/
theorem xt_nost {D : va_G} {cl : List vw_C} {ws : va_W} {H : Heap} (h : va_P D cl ws H) {k : Nat} {q : Nat × va_E} (hk : ws[k]? = some q) : ∃ cell, H[q.1]? = some cell ∧ cell.vm.isStatics = false := by
  have h1 := h k q hk
  unfold va_at at h1
  split at h1
  · exact ⟨_, h1, by unfold vp_cell; split <;> rfl⟩
  · obtain ⟨r, -, h2⟩ := h1
    obtain ⟨cell, h3⟩ := h2
    exact ⟨cell, h3.1, by rw [h3.2.2.1]; rfl⟩
theorem xt_ks {D : va_G} {cl : List vw_C} {ws : va_W} {H0 H : Heap} {locs : List Loc} {A : Nat → Prop} (hA : va_A ws H0.size = A) (h : va_P D cl ws H0) (hS : va_S A H0 H locs) : KS H0 H := by
  intro a cell hc hs
  have hlt : a < H0.size := (Array.getElem?_eq_some_iff.mp hc).1
  rw [hS.2.1 a hlt (fun hA' => ?_)]
  · exact hc
  · rw [← hA] at hA'
    rcases hA' with ⟨k, e, hk⟩ | h2
    · obtain ⟨cell2, h3, h4⟩ := xt_nost h hk
      have e2 := Option.some.inj (hc.symm.trans h3)
      rw [e2, h4] at hs
      cases hs
    · exact absurd hlt (Nat.not_lt.mpr h2)
theorem xt_ff {U V : State} (hv : V.vm = U.vm) (C n d : String) : V.fieldFound? C n d = U.fieldFound? C n d := by
  unfold State.fieldFound?
  rw [hv]
theorem xt_isr {C n d : String} {U V : State} (hv : V.vm = U.vm) (hk : KS U.heap V.heap) (h : (Cond.isRef (.static C n d)).before #[] U = true) : (Cond.isRef (.static C n d)).before #[] V = true := by
  obtain ⟨v, he, hr⟩ := Cond.isRef_spec (args := #[]) (first := U) (o := none) (s := U) (idx := []) h
  have he2 : (Term.static C n d).eval #[] V none [] V = some v := by
    simp only [Term.eval, State.fieldNamed?, xt_ff hv] at he ⊢
    cases hf : U.fieldFound? C n d with
    | none => rw [hf] at he; cases he
    | some x =>
      obtain ⟨c, k, i, f⟩ := x
      rw [hf] at he
      simp only [Option.bind_eq_bind, Option.bind_some] at he ⊢
      by_cases hst : f.isStatic = true
      · rw [hst] at he ⊢
        simp only [beq_self_eq_true, if_true, Option.pure_def, Option.bind_some] at he ⊢
        cases ha : k.statics with
        | none => rw [ha] at he; cases he
        | some a =>
          rw [ha] at he
          simp only [Option.bind_some] at he ⊢
          cases hc : U.heap[a]? with
          | none => rw [hc] at he; cases he
          | some cell =>
            rw [hc] at he
            simp only [Option.bind_some] at he
            by_cases hs : cell.vm.isStatics = true
            · rw [hk a cell hc hs]
              exact he
            · rw [if_neg hs] at he
              cases he
      · have : f.isStatic = false := by cases hq : f.isStatic <;> simp_all
        rw [this] at he
        cases he
  show (Cond.isRef (.static C n d)).holds #[] V none V [] = true
  cases v <;> simp [Cond.holds, Cond.value, he2] <;> cases hr
theorem xt_lst {C n d : String} {U V : State} (hv : V.vm = U.vm) (hk : KS U.heap V.heap) (h : (Cond.laysStatic C n d).before #[] U = true) : (Cond.laysStatic C n d).before #[] V = true := by
  simp only [Cond.before, Cond.holds, Cond.value, xt_ff hv, hv] at h ⊢
  cases hf : U.fieldFound? C n d with
  | none => rw [hf] at h; cases hg : U.vm.findClass C <;> rw [hg] at h <;> cases h
  | some x =>
    obtain ⟨c, k, i, f⟩ := x
    cases hg : U.vm.findClass C with
    | none => rw [hf, hg] at h; cases h
    | some c0 =>
      rw [hf, hg] at h
      simp only at h ⊢
      cases ha : k.statics with
      | none => rw [ha] at h; cases h
      | some a =>
        rw [ha] at h
        simp only [Option.bind_some] at h ⊢
        cases hc : U.heap[a]? with
        | none => rw [hc] at h; cases h
        | some cell =>
          rw [hc] at h
          by_cases hs : cell.vm.isStatics = true
          · rw [hk a cell hc hs]
            exact h
          · simp [hs] at h
def xstr : List (Nat × String) := [(65, "a byte is no character"), (75, "the text would be too long"), (86, "the text has not so many characters"), (103, "no name"), (109, "no value"), (117, "there are 40 facts"), (137, "no day"), (150, "no such rule"), (152, "no such answer"), (154, "the rule was not asked"), (160, "below 0"), (162, "the rules were not asked"), (164, "no such steps"), (166, "no such fact"), (175, "no such count")]
/-- words of the tables that a throw needs and that are carried apart -/
def xkw : List Cond := [.laysStatic "java/lang/Throwable" "UNASSIGNED_STACK" "[Ljava/lang/StackTraceElement;", .laysStatic "java/lang/Throwable" "SUPPRESSED_SENTINEL" "Ljava/util/List;", .isRef (.static "java/lang/Throwable" "UNASSIGNED_STACK" "[Ljava/lang/StackTraceElement;"), .isRef (.static "java/lang/Throwable" "SUPPRESSED_SENTINEL" "Ljava/util/List;"),
  .declares ⟨"java/lang/RuntimeException", "<init>", "(Ljava/lang/String;)V"⟩, .declares ⟨"java/lang/Exception", "<init>", "(Ljava/lang/String;)V"⟩, .declares ⟨"java/lang/Throwable", "<init>", "(Ljava/lang/String;)V"⟩, .castable "java/lang/IllegalArgumentException" "java/lang/IllegalArgumentException", .castable "java/lang/IllegalStateException" "java/lang/IllegalStateException"]
def xk (U : State) : Prop := (∀ w ∈ xkw, w.before #[] U = true) ∧ (∀ z ∈ xstr, (Cond.stringRef "PermitRules" z.1 z.2).before #[] U = true) ∧ ∀ c1 c2, U.vm.findClass "java/lang/IllegalStateException" = some c1 → U.vm.findClass "java/lang/IllegalArgumentException" = some c2 → U.vm.assignable c1 c2 = false
theorem xk_face : ∀ w ∈ xkw, w.keepsFace = true := by decide +kernel
theorem xk_w {s : State} {vm' : Vm} (hW : s.WarmedH vm') (h : xk s) : xk (s.setVm vm') := by
  refine ⟨fun w hw => Cond.before_shiftedFace (State.Shifted.of_warmed hW) w (xk_face w hw) (h.1 w hw), fun z hz => Cond.stringRef_warmed hW (h.2.1 z hz), fun c1 c2 h1 h2 => ?_⟩
  have a := hW.alike
  have h1' : vm'.findClass "java/lang/IllegalStateException" = some c1 := h1
  have h2' : vm'.findClass "java/lang/IllegalArgumentException" = some c2 := h2
  rw [a.findClass] at h1' h2'
  show vm'.assignable c1 c2 = false
  rw [a.assignable]
  exact h.2.2 c1 c2 h1' h2'
theorem xk_h {U V : State} (hv : V.vm = U.vm) (hk : KS U.heap V.heap) (h : xk U) : xk V := by
  refine ⟨?_, fun z hz => ?_, fun c1 c2 h1 h2 => ?_⟩
  · refine List.forall_mem_cons.mpr ⟨xt_lst hv hk (h.1 _ (List.mem_of_getElem? (i := 0) rfl)), ?_⟩
    refine List.forall_mem_cons.mpr ⟨xt_lst hv hk (h.1 _ (List.mem_of_getElem? (i := 1) rfl)), ?_⟩
    refine List.forall_mem_cons.mpr ⟨xt_isr hv hk (h.1 _ (List.mem_of_getElem? (i := 2) rfl)), ?_⟩
    refine List.forall_mem_cons.mpr ⟨xt_isr hv hk (h.1 _ (List.mem_of_getElem? (i := 3) rfl)), ?_⟩
    refine List.forall_mem_cons.mpr ⟨va_tabs rfl hv.symm (h.1 _ (List.mem_of_getElem? (i := 4) rfl)), ?_⟩
    refine List.forall_mem_cons.mpr ⟨va_tabs rfl hv.symm (h.1 _ (List.mem_of_getElem? (i := 5) rfl)), ?_⟩
    refine List.forall_mem_cons.mpr ⟨va_tabs rfl hv.symm (h.1 _ (List.mem_of_getElem? (i := 6) rfl)), ?_⟩
    refine List.forall_mem_cons.mpr ⟨va_tabs rfl hv.symm (h.1 _ (List.mem_of_getElem? (i := 7) rfl)), ?_⟩
    refine List.forall_mem_cons.mpr ⟨va_tabs rfl hv.symm (h.1 _ (List.mem_of_getElem? (i := 8) rfl)), ?_⟩
    exact fun _ h => absurd h (List.not_mem_nil)
  · have h1 := h.2.1 z hz
    simp only [Cond.before, Cond.holds, Cond.value, State.names, State.poolOf?, State.resolvedAt?, hv] at h1 ⊢
    exact h1
  · rw [hv] at h1 h2 ⊢
    exact h.2.2 c1 c2 h1 h2
theorem xk_at {s : State} {H : Heap} (h : xk s) (hk : KS s.heap H) : ∀ U : State, U.heap = H → s.WarmedH U.vm → xk U := fun U hU hW => xk_h (U := s.setVm U.vm) rfl (by rw [hU]; exact hk) (xk_w hW h)
theorem xa_1 {A : Array Value} {U : State} (hb : ∀ w ∈ bgw, w.before A U = true) (hx : xk U) : ∀ w ∈ Bundle.ownAtoms "PermitRules" 67 "java/lang/IllegalArgumentException" ["java/lang/RuntimeException", "java/lang/Exception"], w.before A U = true := by
  refine List.forall_mem_cons.mpr ⟨hb _ (mt_1 10 rfl (by decide +kernel)), ?_⟩
  refine List.forall_mem_cons.mpr ⟨hb _ (mt_2 116 rfl (by decide +kernel)), ?_⟩
  refine List.forall_mem_cons.mpr ⟨hb _ (mt_2 125 rfl (by decide +kernel)), ?_⟩
  refine List.forall_mem_cons.mpr ⟨hb _ (mt_2 128 rfl (by decide +kernel)), ?_⟩
  refine List.forall_mem_cons.mpr ⟨hb _ (mt_2 131 rfl (by decide +kernel)), ?_⟩
  refine List.forall_mem_cons.mpr ⟨hb _ (mt_2 133 rfl (by decide +kernel)), ?_⟩
  refine List.forall_mem_cons.mpr ⟨hb _ (mt_2 117 rfl (by decide +kernel)), ?_⟩
  refine List.forall_mem_cons.mpr ⟨hb _ (mt_2 118 rfl (by decide +kernel)), ?_⟩
  refine List.forall_mem_cons.mpr ⟨hb _ (mt_1 21 rfl (by decide +kernel)), ?_⟩
  refine List.forall_mem_cons.mpr ⟨hb _ (mt_1 22 rfl (by decide +kernel)), ?_⟩
  refine List.forall_mem_cons.mpr ⟨hb _ (mt_2 119 rfl (by decide +kernel)), ?_⟩
  refine List.forall_mem_cons.mpr ⟨hb _ (mt_2 124 rfl (by decide +kernel)), ?_⟩
  refine List.forall_mem_cons.mpr ⟨hb _ (mt_2 129 rfl (by decide +kernel)), ?_⟩
  refine List.forall_mem_cons.mpr ⟨hb _ (mt_2 149 rfl (by decide +kernel)), ?_⟩
  refine List.forall_mem_cons.mpr ⟨hb _ (mt_2 106 rfl (by decide +kernel)), ?_⟩
  refine List.forall_mem_cons.mpr ⟨hb _ (mt_2 150 rfl (by decide +kernel)), ?_⟩
  refine List.forall_mem_cons.mpr ⟨hb _ (mt_2 108 rfl (by decide +kernel)), ?_⟩
  refine List.forall_mem_cons.mpr ⟨hb _ (mt_2 151 rfl (by decide +kernel)), ?_⟩
  refine List.forall_mem_cons.mpr ⟨hb _ (mt_2 110 rfl (by decide +kernel)), ?_⟩
  refine List.forall_mem_cons.mpr ⟨hb _ (mt_2 120 rfl (by decide +kernel)), ?_⟩
  refine List.forall_mem_cons.mpr ⟨hx.1 _ (List.mem_of_getElem? (i := 0) rfl), ?_⟩
  refine List.forall_mem_cons.mpr ⟨hb _ (mt_2 122 rfl (by decide +kernel)), ?_⟩
  refine List.forall_mem_cons.mpr ⟨hx.1 _ (List.mem_of_getElem? (i := 1) rfl), ?_⟩
  refine List.forall_mem_cons.mpr ⟨hb _ (mt_2 112 rfl (by decide +kernel)), ?_⟩
  refine List.forall_mem_cons.mpr ⟨hb _ (mt_2 145 rfl (by decide +kernel)), ?_⟩
  refine List.forall_mem_cons.mpr ⟨hb _ (mt_2 146 rfl (by decide +kernel)), ?_⟩
  refine List.forall_mem_cons.mpr ⟨hb _ (mt_2 148 rfl (by decide +kernel)), ?_⟩
  refine List.forall_mem_cons.mpr ⟨hb _ (mt_2 112 rfl (by decide +kernel)), ?_⟩
  refine List.forall_mem_cons.mpr ⟨hb _ (mt_2 136 rfl (by decide +kernel)), ?_⟩
  refine List.forall_mem_cons.mpr ⟨hb _ (mt_2 137 rfl (by decide +kernel)), ?_⟩
  refine List.forall_mem_cons.mpr ⟨hb _ (mt_2 138 rfl (by decide +kernel)), ?_⟩
  refine List.forall_mem_cons.mpr ⟨hb _ (mt_2 139 rfl (by decide +kernel)), ?_⟩
  refine List.forall_mem_cons.mpr ⟨va_any rfl (hx.1 _ (List.mem_of_getElem? (i := 4) rfl)), ?_⟩
  refine List.forall_mem_cons.mpr ⟨hb _ (mt_2 139 rfl (by decide +kernel)), ?_⟩
  refine List.forall_mem_cons.mpr ⟨hb _ (mt_2 140 rfl (by decide +kernel)), ?_⟩
  refine List.forall_mem_cons.mpr ⟨hb _ (mt_2 141 rfl (by decide +kernel)), ?_⟩
  refine List.forall_mem_cons.mpr ⟨hb _ (mt_2 142 rfl (by decide +kernel)), ?_⟩
  refine List.forall_mem_cons.mpr ⟨va_any rfl (hx.1 _ (List.mem_of_getElem? (i := 5) rfl)), ?_⟩
  refine List.forall_mem_cons.mpr ⟨hb _ (mt_2 142 rfl (by decide +kernel)), ?_⟩
  refine List.forall_mem_cons.mpr ⟨hb _ (mt_2 143 rfl (by decide +kernel)), ?_⟩
  refine List.forall_mem_cons.mpr ⟨hb _ (mt_2 144 rfl (by decide +kernel)), ?_⟩
  refine List.forall_mem_cons.mpr ⟨hb _ (mt_2 145 rfl (by decide +kernel)), ?_⟩
  refine List.forall_mem_cons.mpr ⟨va_any rfl (hx.1 _ (List.mem_of_getElem? (i := 6) rfl)), ?_⟩
  refine List.forall_mem_cons.mpr ⟨hb _ (mt_2 135 rfl (by decide +kernel)), ?_⟩
  refine List.forall_mem_cons.mpr ⟨hb _ (mt_2 95 rfl (by decide +kernel)), ?_⟩
  refine List.forall_mem_cons.mpr ⟨va_any rfl (hx.1 _ (List.mem_of_getElem? (i := 7) rfl)), ?_⟩
  refine List.forall_mem_cons.mpr ⟨hb _ (mt_2 103 rfl (by decide +kernel)), ?_⟩
  refine List.forall_mem_cons.mpr ⟨hb _ (mt_2 104 rfl (by decide +kernel)), ?_⟩
  refine List.forall_mem_cons.mpr ⟨hb _ (mt_2 105 rfl (by decide +kernel)), ?_⟩
  refine List.forall_mem_cons.mpr ⟨hb _ (mt_2 107 rfl (by decide +kernel)), ?_⟩
  refine List.forall_mem_cons.mpr ⟨hb _ (mt_2 109 rfl (by decide +kernel)), ?_⟩
  refine List.forall_mem_cons.mpr ⟨hb _ (mt_2 111 rfl (by decide +kernel)), ?_⟩
  refine List.forall_mem_cons.mpr ⟨hx.1 _ (List.mem_of_getElem? (i := 2) rfl), ?_⟩
  refine List.forall_mem_cons.mpr ⟨hx.1 _ (List.mem_of_getElem? (i := 3) rfl), ?_⟩
  refine List.forall_mem_cons.mpr ⟨hb _ (mt_2 115 rfl (by decide +kernel)), ?_⟩
  refine List.forall_mem_cons.mpr ⟨hb _ (mt_2 114 rfl (by decide +kernel)), ?_⟩
  refine List.forall_mem_cons.mpr ⟨hb _ (mt_2 113 rfl (by decide +kernel)), ?_⟩
  exact fun _ h => absurd h (List.not_mem_nil)
theorem xa_2 {A : Array Value} {U : State} (hb : ∀ w ∈ bgw, w.before A U = true) (hx : xk U) : ∀ w ∈ Bundle.ownAtoms "PermitRules" 77 "java/lang/IllegalStateException" ["java/lang/RuntimeException", "java/lang/Exception"], w.before A U = true := by
  refine List.forall_mem_cons.mpr ⟨hb _ (mt_1 10 rfl (by decide +kernel)), ?_⟩
  refine List.forall_mem_cons.mpr ⟨hb _ (mt_2 116 rfl (by decide +kernel)), ?_⟩
  refine List.forall_mem_cons.mpr ⟨hb _ (mt_2 125 rfl (by decide +kernel)), ?_⟩
  refine List.forall_mem_cons.mpr ⟨hb _ (mt_2 128 rfl (by decide +kernel)), ?_⟩
  refine List.forall_mem_cons.mpr ⟨hb _ (mt_2 131 rfl (by decide +kernel)), ?_⟩
  refine List.forall_mem_cons.mpr ⟨hb _ (mt_2 133 rfl (by decide +kernel)), ?_⟩
  refine List.forall_mem_cons.mpr ⟨hb _ (mt_2 117 rfl (by decide +kernel)), ?_⟩
  refine List.forall_mem_cons.mpr ⟨hb _ (mt_2 118 rfl (by decide +kernel)), ?_⟩
  refine List.forall_mem_cons.mpr ⟨hb _ (mt_1 21 rfl (by decide +kernel)), ?_⟩
  refine List.forall_mem_cons.mpr ⟨hb _ (mt_1 22 rfl (by decide +kernel)), ?_⟩
  refine List.forall_mem_cons.mpr ⟨hb _ (mt_2 119 rfl (by decide +kernel)), ?_⟩
  refine List.forall_mem_cons.mpr ⟨hb _ (mt_2 124 rfl (by decide +kernel)), ?_⟩
  refine List.forall_mem_cons.mpr ⟨hb _ (mt_2 129 rfl (by decide +kernel)), ?_⟩
  refine List.forall_mem_cons.mpr ⟨hb _ (mt_2 149 rfl (by decide +kernel)), ?_⟩
  refine List.forall_mem_cons.mpr ⟨hb _ (mt_2 106 rfl (by decide +kernel)), ?_⟩
  refine List.forall_mem_cons.mpr ⟨hb _ (mt_2 150 rfl (by decide +kernel)), ?_⟩
  refine List.forall_mem_cons.mpr ⟨hb _ (mt_2 108 rfl (by decide +kernel)), ?_⟩
  refine List.forall_mem_cons.mpr ⟨hb _ (mt_2 151 rfl (by decide +kernel)), ?_⟩
  refine List.forall_mem_cons.mpr ⟨hb _ (mt_2 110 rfl (by decide +kernel)), ?_⟩
  refine List.forall_mem_cons.mpr ⟨hb _ (mt_2 120 rfl (by decide +kernel)), ?_⟩
  refine List.forall_mem_cons.mpr ⟨hx.1 _ (List.mem_of_getElem? (i := 0) rfl), ?_⟩
  refine List.forall_mem_cons.mpr ⟨hb _ (mt_2 122 rfl (by decide +kernel)), ?_⟩
  refine List.forall_mem_cons.mpr ⟨hx.1 _ (List.mem_of_getElem? (i := 1) rfl), ?_⟩
  refine List.forall_mem_cons.mpr ⟨hb _ (mt_2 112 rfl (by decide +kernel)), ?_⟩
  refine List.forall_mem_cons.mpr ⟨hb _ (mt_2 145 rfl (by decide +kernel)), ?_⟩
  refine List.forall_mem_cons.mpr ⟨hb _ (mt_2 146 rfl (by decide +kernel)), ?_⟩
  refine List.forall_mem_cons.mpr ⟨hb _ (mt_2 148 rfl (by decide +kernel)), ?_⟩
  refine List.forall_mem_cons.mpr ⟨hb _ (mt_2 112 rfl (by decide +kernel)), ?_⟩
  refine List.forall_mem_cons.mpr ⟨hb _ (mt_2 171 rfl (by decide +kernel)), ?_⟩
  refine List.forall_mem_cons.mpr ⟨hb _ (mt_2 172 rfl (by decide +kernel)), ?_⟩
  refine List.forall_mem_cons.mpr ⟨hb _ (mt_2 173 rfl (by decide +kernel)), ?_⟩
  refine List.forall_mem_cons.mpr ⟨hb _ (mt_2 139 rfl (by decide +kernel)), ?_⟩
  refine List.forall_mem_cons.mpr ⟨va_any rfl (hx.1 _ (List.mem_of_getElem? (i := 4) rfl)), ?_⟩
  refine List.forall_mem_cons.mpr ⟨hb _ (mt_2 139 rfl (by decide +kernel)), ?_⟩
  refine List.forall_mem_cons.mpr ⟨hb _ (mt_2 140 rfl (by decide +kernel)), ?_⟩
  refine List.forall_mem_cons.mpr ⟨hb _ (mt_2 141 rfl (by decide +kernel)), ?_⟩
  refine List.forall_mem_cons.mpr ⟨hb _ (mt_2 142 rfl (by decide +kernel)), ?_⟩
  refine List.forall_mem_cons.mpr ⟨va_any rfl (hx.1 _ (List.mem_of_getElem? (i := 5) rfl)), ?_⟩
  refine List.forall_mem_cons.mpr ⟨hb _ (mt_2 142 rfl (by decide +kernel)), ?_⟩
  refine List.forall_mem_cons.mpr ⟨hb _ (mt_2 143 rfl (by decide +kernel)), ?_⟩
  refine List.forall_mem_cons.mpr ⟨hb _ (mt_2 144 rfl (by decide +kernel)), ?_⟩
  refine List.forall_mem_cons.mpr ⟨hb _ (mt_2 145 rfl (by decide +kernel)), ?_⟩
  refine List.forall_mem_cons.mpr ⟨va_any rfl (hx.1 _ (List.mem_of_getElem? (i := 6) rfl)), ?_⟩
  refine List.forall_mem_cons.mpr ⟨hb _ (mt_2 170 rfl (by decide +kernel)), ?_⟩
  refine List.forall_mem_cons.mpr ⟨hb _ (mt_2 161 rfl (by decide +kernel)), ?_⟩
  refine List.forall_mem_cons.mpr ⟨va_any rfl (hx.1 _ (List.mem_of_getElem? (i := 8) rfl)), ?_⟩
  refine List.forall_mem_cons.mpr ⟨hb _ (mt_2 163 rfl (by decide +kernel)), ?_⟩
  refine List.forall_mem_cons.mpr ⟨hb _ (mt_2 127 rfl (by decide +kernel)), ?_⟩
  refine List.forall_mem_cons.mpr ⟨hb _ (mt_2 164 rfl (by decide +kernel)), ?_⟩
  refine List.forall_mem_cons.mpr ⟨hb _ (mt_2 165 rfl (by decide +kernel)), ?_⟩
  refine List.forall_mem_cons.mpr ⟨hb _ (mt_2 166 rfl (by decide +kernel)), ?_⟩
  refine List.forall_mem_cons.mpr ⟨hb _ (mt_2 167 rfl (by decide +kernel)), ?_⟩
  refine List.forall_mem_cons.mpr ⟨hx.1 _ (List.mem_of_getElem? (i := 2) rfl), ?_⟩
  refine List.forall_mem_cons.mpr ⟨hx.1 _ (List.mem_of_getElem? (i := 3) rfl), ?_⟩
  refine List.forall_mem_cons.mpr ⟨hb _ (mt_2 115 rfl (by decide +kernel)), ?_⟩
  refine List.forall_mem_cons.mpr ⟨hb _ (mt_2 114 rfl (by decide +kernel)), ?_⟩
  refine List.forall_mem_cons.mpr ⟨hb _ (mt_2 168 rfl (by decide +kernel)), ?_⟩
  exact fun _ h => absurd h (List.not_mem_nil)
section XT3
variable {p : Program} {l : Launch} {e : Env} {R : Room} {s : State} {m : MethodId} {args : Array Value} {below : List Frame} {meth : Method} {c : Code} {H : Heap} {locs : List Loc} {cells slots : Nat} {Q Q' : State → Prop} {g : JFrame}
def FEX (first t : State) (L : List Loc) (k n : Nat) : Prop := first.WarmedH t.vm ∧ first.sameButNew ({ t with vm := first.vm } : State) L k n
/-- a contract whose method may throw -/
def MetX (l : Launch) (y : MethodName) (ws : List Cond) (rm : Room) (Pc : Array Value → State → Prop) (Qc : Array Value → State → Outcome → State → Prop) (mc ms : Nat) (free : Addr → Prop) : Prop :=
  MetFree l y (headSpec ws rm) Pc (fun _ _ _ _ _ => True) (fun a st o t => Qc a st o t ∧ ∃ L, FEX st t L mc ms ∧ ∀ q ∈ L, free q.base)
def MQX (below : List Frame) (Qc : Array Value → State → Outcome → State → Prop) (a : Array Value) (s : State) (mc ms : Nat) (free : Addr → Prop) : State → Prop := fun t =>
  ∃ o, t.status = .running ∧ Ended t below o ∧ Qc a s o t ∧ ∃ L, FEX s t L mc ms ∧ ∀ q ∈ L, free q.base
theorem MQ.x {Qc : Array Value → State → Outcome → State → Prop} {a : Array Value} {mc ms : Nat} {free : Addr → Prop} {t : State} (h : MQ below Qc a s mc ms free t) : MQX below Qc a s mc ms free t := by
  obtain ⟨o, h1, h2, h3, L, h4, h5⟩ := h
  exact ⟨o, h1, h2, h3, L, h4.2, h5⟩
theorem W.imp (h : ∀ t, Q t → Q' t) (k : W p l e R s m args below meth c H locs cells slots Q g) : W p l e R s m args below meth c H locs cells slots Q' g := fun T hT X => by
  obtain ⟨t, a, b⟩ := k T hT X
  exact ⟨t, a, h t b⟩
theorem MetX.ofW {y : MethodName} {ws ws' : List Cond} {rm : Room} {Pc : Array Value → State → Prop} {Qc : Array Value → State → Outcome → State → Prop} {mc ms : Nat} {free : Addr → Prop} {cc : ByteArray} {maxL : Nat} {ret : Option FieldType}
    (hy : plainName y.cls = true) (hw : ws = Cond.code y cc maxL ret :: ws')
    (body : ∀ p e s m args below meth c s₁, BodyLoose p l y (headSpec ws rm) cc maxL ret e s m args below meth c s₁ → c.maxLocals = maxL → Pc args s →
      W p l e (headSpec ws rm).room s m args below meth c s.heap [] 0 0 (MQX below Qc args s mc ms free) (entryFrame m args maxL)) : MetX l y ws rm Pc Qc mc ms free := by
  refine MetFree.of_bodyS (code := cc) (maxLocals := maxL) (ret := ret) hy ?_ ?_
  · intro args s m h hn
    obtain ⟨meth, c, h1, h2, h3, h4, h5, h6, -, -⟩ := Cond.code_spec hn (atoms_spec (ws := ws) h _ (by rw [hw]; exact List.mem_cons_self))
    exact ⟨meth, c, h1, h2, h3, h4, h5, h6⟩
  · intro p e s m args below meth c s₁ B hml hP _
    have hh0 : s₁.heap = s.heap := by rw [B.state]; rfl
    obtain ⟨t, a1, o, b1, b2, b3⟩ := body p e s m args below meth c s₁ B hml hP s₁ hh0 (Stand.of_body B)
    exact ⟨t, o, a1, b1, b2, ⟨b3.1, b3.2⟩⟩
/-- how it ended: 0 returned, 1 an IllegalArgumentException, 2 an IllegalStateException -/
def xo (k : Int32) (v : Value) (oc : Outcome) (t : State) : Prop := (k = 0 ∧ oc = .returned (some v)) ∨ ∃ (a : Addr) (cell : Cell), oc = .threw a ∧ t.heap[a]? = some cell ∧ cell.vm = .none ∧ ((k = 1 ∧ t.vm.findClass "java/lang/IllegalArgumentException" = some cell.cls) ∨ (k = 2 ∧ t.vm.findClass "java/lang/IllegalStateException" = some cell.cls))
def xq_i {S : Type} (post : Int32 → Int32 → S → Prop) (B : S → State → Prop) (A : Nat → Prop) : Array Value → State → Outcome → State → Prop := fun _ st oc t => (∃ (k r : Int32) (u : S), post k r u ∧ xo k (.int r) oc t ∧ B u t) ∧ va_F A st t
def xq_l {S : Type} (post : Int32 → Int64 → S → Prop) (B : S → State → Prop) (A : Nat → Prop) : Array Value → State → Outcome → State → Prop := fun _ st oc t => (∃ (k : Int32) (r : Int64) (u : S), post k r u ∧ xo k (.long r) oc t ∧ B u t) ∧ va_F A st t
variable {cc : ByteArray} {pc : Nat} {ls : Array Slot}
theorem xw_i {S : Type} {post : Int32 → Int32 → S → Prop} {B : S → State → Prop} {A : Nat → Prop} {v : Int32} {u : S} (hexec : p.tables.exec = Jvm.exec) (hb : c.code = cc) (hr : meth.sig.returnType = some .int) (hlocks : meth.locks = false) (hp : post 0 v u) (hB : ∀ t : State, t.heap = H → B u t) (hS : va_S A s.heap H locs) (hdg : decode cc pc = .ok (.ireturn, 1)) :
    W p l e R s m args below meth c H locs cells slots (MQX below (xq_i post B A) args s cells slots A) (F0 m pc ls [.int v]) :=
  W.imp (fun _ h => MQ.x h) (W.iret hexec hb hr (fun t ht _ => ⟨⟨0, v, u, hp, Or.inl ⟨rfl, rfl⟩, hB t ht⟩, hS.F ht⟩) hS.2.2 hdg hlocks)
theorem xw_l {S : Type} {post : Int32 → Int64 → S → Prop} {B : S → State → Prop} {A : Nat → Prop} {v : Int64} {u : S} (hexec : p.tables.exec = Jvm.exec) (hb : c.code = cc) (hr : meth.sig.returnType = some .long) (hlocks : meth.locks = false) (hp : post 0 v u) (hB : ∀ t : State, t.heap = H → B u t) (hS : va_S A s.heap H locs) (hdg : decode cc pc = .ok (.lreturn, 1)) :
    W p l e R s m args below meth c H locs cells slots (MQX below (xq_l post B A) args s cells slots A) (F0 m pc ls [.long v]) :=
  W.imp (fun _ h => MQ.x h) (W.lret hexec hb hr (fun t ht _ => ⟨⟨0, v, u, hp, Or.inl ⟨rfl, rfl⟩, hB t ht⟩, hS.F ht⟩) hS.2.2 hdg hlocks)
theorem gw_or {w : Cond} (h : goodWord w = true) : (w.onTables && w.keeps) = true ∨ ∃ ty, w = .arrayClass ty := by
  unfold goodWord at h
  split at h
  · exact Or.inr ⟨_, rfl⟩
  · exact Or.inl h
/-- new X("..") and athrow, on an empty stack -/
theorem xt_throw {Qc : Array Value → State → Outcome → State → Prop} {free : Addr → Prop} {cls tx : String} {ic idx six nL : Nat} (hexec : p.tables.exec = Jvm.exec) (hb : c.code = cc) (hNT : l.stackTraces = false) (hlocks : meth.locks = false) (hho : c.exceptionTable.isEmpty = true) (hml : c.maxLocals = nL) (hls : ls.size = nL)
    (hown : s.vm.findClass "PermitRules" = some m.cls) (htb : ∀ w ∈ bgw, w.before args s = true) (hxk : xk s) (hks : KS s.heap H)
    (hxa : ∀ {A : Array Value} {U : State}, (∀ w ∈ bgw, w.before A U = true) → xk U → ∀ w ∈ Bundle.ownAtoms "PermitRules" ic cls ["java/lang/RuntimeException", "java/lang/Exception"], w.before A U = true) (hfit : Bundle.fit cls = true)
    (hcl : Cond.classLink "PermitRules" idx cls ∈ bgw) (hin : Cond.instantiable cls 6 ∈ bgw) (hit : Cond.initialized cls ∈ bgw) (hst : (six, tx) ∈ xstr)
    (d0 : decode cc pc = .ok (.new idx, 3)) (d1 : decode cc (pc + 3) = .ok (.dup, 1)) (d2 : decode cc (pc + 3 + 1) = .ok (.ldc six, 2)) (d3 : decode cc (pc + 3 + 1 + 2) = .ok (.invokespecial ic, 3)) (d4 : decode cc (pc + 3 + 1 + 2 + 3) = .ok (.athrow, 1))
    (hR : 6 ≤ R.frames ∧ 83 ≤ R.locals) (hc1 : cells + 1 ≤ R.cells) (hc2 : slots + 6 ≤ R.slots) (hfree : ∀ q ∈ locs, free q.base)
    (hQ : ∀ (t : State) (cell : Cell), t.heap[H.size]? = some cell → cell.vm = .none → t.vm.findClass cls = some cell.cls → H.size ≤ t.heap.size → (∀ q : Nat, q < H.size → t.heap[q]? = H[q]?) → Qc args s (.threw H.size) t) :
    W p l e R s m args below meth c H locs cells slots (MQX below Qc args s (cells + 1) (slots + 6) free) (F0 m pc ls []) := by
  intro T hT X
  have X' := xt_re X hc1 hc2
  generalize hs' : T.setFrames (.invoking m args :: below) = s' at X'
  have hvm : s'.vm = T.vm := by rw [← hs']; rfl
  have hhp : s'.heap = H := by rw [← hs', ← hT]; rfl
  have hW' : s.WarmedH s'.vm := by rw [hvm]; exact X.warmed
  have htb' : ∀ w ∈ bgw, w.before args s' = true := fun w hw => word_at hW' (gw_or (bg_good w hw)) (htb w hw)
  have hxk' : xk s' := xk_at hxk hks s' hhp hW'
  have hown' : s'.vm.findClass "PermitRules" = some m.cls := by rw [hW'.alike.findClass]; exact hown
  have w : W p l e { R with cells := 1, slots := 6 } s' m args below meth c H [] 0 0 (fun U => U.status = .running ∧ Ended U below (.threw H.size) ∧ s'.WarmedH U.vm ∧ s'.sameButNew ({ U with vm := s'.vm } : State) [] 1 6 ∧ ∃ (ce : Cell) (msg : Value), U.heap[H.size]? = some ce ∧ Bundle.OwnCell args s' cls H.size msg ce) (F0 m pc ls []) := by
    refine W.newc hexec hb hown' (htb' _ hcl) (htb' _ hin) (htb' _ hit) rfl d0 (Nat.le_refl _) (Nat.le_refl _) (fun cC kC h1 h2 h3 h4 => ?_)
    refine lv_dup hexec hb d1 rfl ?_
    obtain ⟨k, cf, i, a, -, -, -, -, -, hev⟩ := Cond.stringRef_spec hown' (hxk'.2.1 _ hst)
    refine va_ldcS hexec hb hown' (vk_R.of (hxk'.2.1 _ hst) hev) d2 ?_
    intro T2 hT2 X2
    have hcell : T2.heap[H.size]? = some (freshCell cC kC) := by rw [hT2]; exact Array.getElem?_push_size
    obtain ⟨U, st, hrun, hend, hWm, hsame, ce, hce, hoc⟩ := X2.ctorThrowS hexec (by rw [X.admits.platform]; exact hNT) hown' hfit (by decide +kernel) (hxa htb' hxk') (fun x hx => absurd hx List.not_mem_nil) h1 h2 hcell (by rw [hhp]; exact Nat.le_refl _) (msg := .ref a) rfl (g := F0 m (pc + 3 + 1 + 2) ls [.ref a, .ref H.size, .ref H.size]) rfl (hls.trans hml.symm) rfl rfl (rest := []) rfl (by rw [hb]; exact d3) (by rw [hb]; exact d4)
      (fun x hx => by rw [Array.isEmpty_iff.mp hho] at hx; exact absurd hx List.not_mem_nil) (show 2 + 3 < R.frames by omega) (show 2 * 0 + (1 + 0) + (13 * 3 + 42) ≤ R.locals by omega) hlocks
    exact ⟨U, st, hrun, hend, hWm, hsame, ce, .ref a, hce, hoc⟩
  obtain ⟨U, st, hrun, hend, hWm, hsame, ce, msg, hce, hoc⟩ := w T hT X'
  have hold : ∀ q : Nat, q < H.size → U.heap[q]? = H[q]? := fun q hq => by
    have h1 : s'.heap[q]? = some (H[q]'hq) := by rw [hhp]; exact Array.getElem?_eq_getElem hq
    have h2 : U.heap[q]? = some (H[q]'hq) := hsame.old_cell h1
    rw [h2, Array.getElem?_eq_getElem hq]
  have hsz : H.size ≤ U.heap.size := by have := hsame.2.1; rw [hhp] at this; exact this
  refine ⟨U, st, .threw H.size, hrun, hend, hQ U ce hce hoc.vm (by rw [hWm.alike.findClass]; exact hoc.cls) hsz hold, locs ++ [], ⟨?_, ?_⟩, fun q hq => hfree q (by rw [List.append_nil] at hq; exact hq)⟩
  · have a : T.WarmedH U.vm := by rw [← hs'] at hWm; exact hWm
    exact State.WarmedH.trans X.warmed a
  · rw [← hs'] at hsame
    have h1 : T.sameButNew ({ U with vm := T.vm } : State) [] 1 6 := xt_sf hsame
    exact X.same.trans (h1.setVm s.vm)
end XT3
section XT4
variable {p : Program} {l : Launch} {e : Env} {R : Room} {s : State} {m : MethodId} {args : Array Value} {below : List Frame} {meth : Method} {c : Code} {T : State} {locs : List Loc} {cells slots : Nat}
/-- a call of a method that may throw: behind it, or with the exception over the caller's frame -/
theorem xv_call (X : Stand p l e R s m args below meth c T locs cells slots) (hexec : p.tables.exec = Jvm.exec) {own C : String} {index : Nat} {y : MethodName} {bytes : ByteArray} {maxL W : Nat} {ret : Option FieldType}
    (hown : s.vm.findClass own = some m.cls) (hlink : (Cond.methodLink own index y).before args s = true) (hinst : (Cond.instanceMethod y).before args s = true) (hsel : (Cond.selects C y y).before args s = true)
    (hcode : (Cond.code y bytes maxL ret).before args s = true) (hini : (Cond.initialized y.cls).before args s = true) (hy : y.cls ≠ "java/lang/invoke/MethodHandle" ∧ y.cls ≠ "java/lang/invoke/VarHandle")
    {ws : List Cond} {rm : Room} {Pc : Array Value → State → Prop} {Qc : Array Value → State → Outcome → State → Prop} {mc ms : Nat} {free : Addr → Prop} (hM : MetX l y ws rm Pc Qc mc ms free) (hbl : FrameBlind Pc) (hrc : rm.cells = mc) (hrs : rm.slots = ms)
    (hframes : rm.frames + 1 ≤ R.frames) (hlocals : W + (maxL + 11) + rm.locals ≤ R.locals) (hws : ∀ w ∈ ws, ∀ (a' : Array Value) (U : State), s.WarmedH U.vm → w.before a' U = true)
    {b : Addr} {cellB : Cell} (hcell : T.heap[b]? = some cellB) (hobj : cellB.vm.isStatics = false) (hcls : s.vm.findClass C = some cellB.cls)
    {g : JFrame} (hg : g.method = m) (hsize : g.locals.size = c.maxLocals) {argsL rest : List Value} (hlen : ∀ sig, parseMethodDescriptor y.desc = some sig → argsL.length = sig.parameters.length)
    (hstack : g.stack = argsL.reverse ++ .ref b :: rest) (hW : 2 * g.monitorRoom + (rest.map fun v => v.category).sum ≤ W) (hdg : decode c.code g.pc = .ok (.invokevirtual index, 3))
    (hcells : cells + mc ≤ R.cells) (hslots : slots + ms ≤ R.slots) (hPc : ∀ vm₁, s.WarmedH vm₁ → Pc (Value.ref b :: argsL).toArray (T.setVm vm₁)) :
    ∃ (o : Outcome) (st₀ t T' : State) (L : List Loc), st₀.heap = T.heap ∧ Stand p l e R s m args below meth c T' (locs ++ L) (cells + mc) (slots + ms) ∧ (∀ q ∈ L, free q.base) ∧ T'.heap = t.heap ∧ T'.vm = t.vm ∧ Qc (Value.ref b :: argsL).toArray st₀ o t ∧
      ((∃ v, o = .returned v ∧ ∀ target, Steps p.tables e below (T'.setTop { g with pc := g.pc + 3, stack := v.toList ++ rest }) target → Steps p.tables e below (T.setTop g) target) ∨
       (∃ a, o = .threw a ∧ ∀ target, Steps p.tables e below ((T'.setTop { g with stack := rest }).pushFrame (.throwing a)) target → Steps p.tables e below (T.setTop g) target)) := by
  obtain ⟨mk, methM, hnamed, hmethM, hstM, habM⟩ := Cond.instanceMethod_spec hinst
  obtain ⟨methM', cM, hmethM', hcM, -, hlM, -, -, -, hsigM⟩ := Cond.code_spec hnamed hcode
  cases hmethM.symm.trans hmethM'
  obtain ⟨c2, r2, m2, q1, q2, q3, q4, kP, hkP, hkPi⟩ := Cond.selects_spec hsel
  cases hcls.symm.trans q1
  cases (State.methodFound?_of_named hnamed hy).symm.trans q2
  cases hnamed.symm.trans q3
  have hselP : selectMethod e.platform s.vm cellB.cls mk = .method mk := by rw [Launch.admits_selectMethod X.admits]; exact q4
  obtain ⟨vm₁, X₁, hstep₁⟩ := X.invokevirtual hexec hown hlink hnamed hmethM hstM hkP hkPi hy (a := b) (cell := cellB) hcell
    (fun z h => by rw [h] at hobj; cases hobj) hselP hmethM habM hkP hkPi (g := g) hg (argsL := argsL) (rest := rest) (hlen _ hsigM) hstack hdg
  have hn1 := X₁.named hnamed
  obtain ⟨kY, hkY, -⟩ := className_of_methodNamed hn1
  have hinitY : kY.init = .initialized := Cond.initialized_spec (findClass_of_methodNamed hn1) hkY (word_at (a' := #[]) X₁.warmed (Or.inl (by first | rfl | simp [Cond.onTables, Cond.keeps, Cond.steady])) hini)
  have h : At (T.setVm vm₁) ({ g with stack := rest } : JFrame).method c below := by show At _ g.method c below; rw [hg]; exact X₁.here
  have hmY : (T.setVm vm₁).vm.method? mk = some methM := by rw [X₁.warmed.alike.method?]; exact hmethM
  have happ : (headSpec ws rm).appliesLoose y e.platform ((T.setVm vm₁).calling { g with stack := rest } mk (Value.ref b :: argsL).toArray) = true :=
    Spec.appliesLoose_calling (g := { g with stack := rest }) h hdg hn1 hkY hinitY
      (X₁.room_calling (g := { g with stack := rest }) (R' := (headSpec ws rm).room) hsize hmY hcM hframes (by rw [hlM]; show 2 * g.monitorRoom + (rest.map fun v => v.category).sum + (maxL + 11) + rm.locals ≤ R.locals; omega) (by rw [show (headSpec ws rm).room.cells = mc from hrc]; exact hcells) (by rw [show (headSpec ws rm).room.slots = ms from hrs]; exact hslots))
      (atoms_intro fun w hw => hws w hw _ _ X₁.warmed)
  have hfr : ((T.setVm vm₁).setTop { g with stack := rest }).frames = [.java { g with stack := rest }] ++ below := by rw [State.frames_setTop' _ h.top, X₁.tail]; rfl
  obtain ⟨o, s₂, hsteps, -, hend, hq⟩ := Steps.callFree hM p X.admits X.cas X.clock (acts := []) hfr happ (hbl _ _ _ _ (hPc vm₁ X₁.warmed)) trivial
  obtain ⟨hq1, L, ⟨hF1, hF2⟩, hL⟩ := hq
  rw [State.frames_setTop' _ h.top, X₁.tail] at hend
  cases o with
  | returned v =>
    obtain ⟨T', X', -, -, ht⟩ := X₁.outOf (g := { g with stack := rest }) hg (ig := .invokevirtual index) (len := 3) hdg hend hF1 hF2
    refine ⟨.returned v, ((T.setVm vm₁).setTop { g with stack := rest }).pushFrame (.invoking mk (Value.ref b :: argsL).toArray), s₂, T', L, by simp [State.pushFrame, State.setTop, State.modifyTopJava, State.setFrames, State.setVm], X', hL, by rw [ht]; simp [State.setTop, State.modifyTopJava, State.setFrames], by rw [ht]; simp [State.setTop, State.modifyTopJava, State.setFrames], hq1, Or.inl ⟨v, rfl, fun target h2 => hstep₁ _ fun acts => ?_⟩⟩
    rw [doInvoke_state]
    refine hsteps.trans ?_
    rw [ht]
    exact h2
  | threw a =>
    obtain ⟨T', X', -, -, ht⟩ := X₁.outOfThrown (g := { g with stack := rest }) hg hend hF1 hF2
    refine ⟨.threw a, ((T.setVm vm₁).setTop { g with stack := rest }).pushFrame (.invoking mk (Value.ref b :: argsL).toArray), s₂, T', L, by simp [State.pushFrame, State.setTop, State.modifyTopJava, State.setFrames, State.setVm], X', hL, by rw [ht, throwing_heap], by rw [ht, throwing_vm], hq1, Or.inr ⟨a, rfl, fun target h2 => hstep₁ _ fun acts => ?_⟩⟩
    rw [doInvoke_state]
    refine hsteps.trans ?_
    rw [ht]
    exact h2
end XT4
section XT5
variable {p : Program} {l : Launch} {e : Env} {R : Room} {s : State} {m : MethodId} {args : Array Value} {below : List Frame} {meth : Method} {c : Code} {T : State} {H : Heap} {locs : List Loc} {cells slots : Nat}
def XRun (p : Program) (l : Launch) (e : Env) (R : Room) (s : State) (m : MethodId) (args : Array Value) (below : List Frame) (meth : Method) (c : Code) (H : Heap) (locs : List Loc) (cells slots mc ms : Nat) (g : JFrame) (rest : List Value) (Qa : State → Outcome → State → Prop) (free : Addr → Prop) : Prop :=
  ∀ T : State, T.heap = H → Stand p l e R s m args below meth c T locs cells slots → ∃ (o : Outcome) (st₀ t T' : State) (L : List Loc), st₀.heap = H ∧ Stand p l e R s m args below meth c T' (locs ++ L) (cells + mc) (slots + ms) ∧ (∀ q ∈ L, free q.base) ∧ T'.heap = t.heap ∧ T'.vm = t.vm ∧ Qa st₀ o t ∧
    ((∃ v, o = .returned v ∧ ∀ target, Steps p.tables e below (T'.setTop { g with pc := g.pc + 3, stack := v.toList ++ rest }) target → Steps p.tables e below (T.setTop g) target) ∨
     (∃ a, o = .threw a ∧ ∀ target, Steps p.tables e below ((T'.setTop { g with stack := rest }).pushFrame (.throwing a)) target → Steps p.tables e below (T.setTop g) target))
variable {y : MethodName} {bytes cc : ByteArray} {maxL nL mc ms n index : Nat} {ret : Option FieldType} {ws : List Cond} {rm : Room} {Pc : Array Value → State → Prop} {Qc : Array Value → State → Outcome → State → Prop} {free : Addr → Prop} {Ts : List Cond} {own C : String} {b : Addr} {As rest : List Value} {g : JFrame}
theorem xr_runV (S : CallFix p m c cc nL s args Ts own) (hM : MetX l y ws rm Pc Qc mc ms free) (cw : CallW R s args own C index y bytes maxL ret ws rm mc ms n) (hp : PreV s H C b Pc As)
    (hg : g.method = m) (hn : As.length = n) (hsize : g.locals.size = nL) (hstack : g.stack = As.reverse ++ .ref b :: rest) (hW : 2 * g.monitorRoom + (rest.map fun v => v.category).sum ≤ 8) (hdg : decode cc g.pc = .ok (.invokevirtual index, 3)) (hf : cells + mc ≤ R.cells ∧ slots + ms ≤ R.slots) :
    XRun p l e R s m args below meth c H locs cells slots mc ms g rest (Qc (Value.ref b :: As).toArray) free := by
  obtain ⟨⟨hrc, hrs, hfr, hlo, hws, -, hcode, hini, hy, hlen, hl⟩, hin, hse⟩ := cw
  obtain ⟨hx, hb, hml, ho, -⟩ := S
  obtain ⟨hbl, ⟨cellB, hcB, hoB, hclB⟩, hPc⟩ := hp
  intro T hT X
  obtain ⟨o, st₀, t, T', L, h0, h1, h2, h3, h4, h5, h6⟩ := xv_call X hx ho hl hin hse hcode hini hy hM hbl hrc hrs hfr hlo hws (by rw [hT]; exact hcB) hoB hclB hg (hsize.trans hml.symm) (argsL := As) (rest := rest) (fun sig h => hn.trans (hlen sig h)) hstack hW (by rw [hb]; exact hdg) hf.1 hf.2 (fun vm₁ hW₁ => hPc (T.setVm vm₁) hT hW₁)
  exact ⟨o, st₀, t, T', L, h0.trans hT, h1, h2, h3, h4, h5, h6⟩
/-- the search for a handler, and the tables that it leaves -/
def xv_FT (e : Env) (s : State) (f : JFrame) (a : Addr) (h : Handler) (vm' : Vm) : Prop :=
  ∀ (Q : Handler → Pre) (E : CtlPost) (d : Bool) (acts : List Action), wp (findHandler f a) Q E e d acts s ↔ Q h d acts (s.setVm vm')
theorem xv_step {s : State} {a : Addr} {f : JFrame} {r : List Frame} {pc : Nat} {vm' : Vm} (hfind : xv_FT e s f a (.found pc) vm') : (stepThrowing e s a (.java f :: r)).Is ((s.setVm vm').setFrames (.java { f with pc := pc, stack := [.ref a] } :: r)) [] := by
  simp only [stepThrowing, searchFrame, vmDo]
  generalize hr : Sem.go _ e false [] s = res
  obtain ⟨as, rfl, ha⟩ := Sem.eq_ok_of hr (a := Handler.found pc) (s' := s.setVm vm') (acts' := []) (by simp [hfind _ _ _ _])
  exact ⟨rfl, ha⟩
theorem xv_sv (u : State) (vm' : Vm) (F G : List Frame) : ((u.setFrames F).setVm vm').setFrames G = (u.setVm vm').setFrames G := by
  have h1 : (u.setFrames F).setVm vm' = (u.setVm vm').setFrames F := rfl
  rw [h1, State.setFrames_setFrames]
theorem xv_caught {tb : Tables} {target : State} {g : JFrame} {a : Addr} (h : At T g.method c below) {pc : Nat} {vm' : Vm} (hfind : xv_FT e ((T.setTop g).pushFrame (.throwing a)) g a (.found pc) vm') (hrest : Steps tb e below ((T.setVm vm').setTop { g with pc := pc, stack := [.ref a] }) target) :
    Steps tb e below ((T.setTop g).pushFrame (.throwing a)) target := by
  obtain ⟨hgo, hw⟩ := h.throwing a
  refine Steps.head hgo hw ?_
  rw [stepThread_throwing (frames_entered h.top _), (xv_step (s := (T.setTop g).pushFrame (.throwing a)) hfind).1]
  obtain ⟨g₀, hg⟩ := Option.isSome_iff_exists.mp h.top
  obtain ⟨r, hr⟩ := State.topJava?_eq_some.mp hg
  have hr' : (T.setVm vm').frames = .java g₀ :: r := hr
  rw [State.setTop_of_frames _ hr'] at hrest
  rw [hr, List.tail_cons, State.pushFrame, xv_sv, State.setTop_of_frames _ hr, xv_sv]
  exact hrest
theorem xv_go {Q : Handler → Pre} {E : CtlPost} {d : Bool} {acts : List Action} {s : State} {f : JFrame} {a : Addr} {x : ExceptionTableEntry} {t : List ExceptionTableEntry} {c : ClassId} {cell : Cell} (hx : covers x f.pc = true) (h0 : x.catchType ≠ 0)
    (hl : s.vm.ClassLinks e.platform f.method.cls x.catchType c) (hcell : s.heap[a]? = some cell) (hobj : ∀ k, cell.vm ≠ .statics k)
    (hk : ∃ k, s.vm.classes[cell.cls]? = some k) (hc : ∃ k, s.vm.classes[c]? = some k) :
    (s.vm.assignable cell.cls c = true → (wp (findHandler.go f a (x :: t)) Q E e d acts s ↔ Q (.found x.handlerPc) d acts (s.setVm (s.vm.noted f.method.cls x.catchType (.cls c))))) ∧
    (s.vm.assignable cell.cls c = false → (wp (findHandler.go f a (x :: t)) Q E e d acts s ↔ wp (findHandler.go f a t) Q E e d acts (s.setVm (s.vm.noted f.method.cls x.catchType (.cls c))))) := by
  simp only [covers] at hx
  obtain ⟨ha, ht⟩ := (resolveClass_links e.toSetting hl).op (op := VmOp.resolveClass f.method.cls x.catchType) rfl
  have hal : s.vm.Alike (s.vm.noted f.method.cls x.catchType (.cls c)) := (Vm.Alike.refl s.vm).noted _ _ _
  obtain ⟨k1, hk1⟩ := hk
  obtain ⟨k2, hk2⟩ := hc
  obtain ⟨k1', hk1', -⟩ := hal.2.2 _ _ hk1
  obtain ⟨k2', hk2', -⟩ := hal.2.2 _ _ hk2
  refine ⟨fun hfit => ?_, fun hfit => ?_⟩
  · have hfit' : (s.vm.noted f.method.cls x.catchType (.cls c)).assignable cell.cls c = true := by rw [hal.assignable]; exact hfit
    simp [findHandler.go, hx, h0, ha, ht, hcell, hobj, hk1', hk2', hfit', VmOp.dirties, VmOp.acts]
  · have hfit' : (s.vm.noted f.method.cls x.catchType (.cls c)).assignable cell.cls c = false := by rw [hal.assignable]; exact hfit
    simp [findHandler.go, hx, h0, ha, ht, hcell, hobj, hk1', hk2', hfit', VmOp.dirties, VmOp.acts]
/-- an exception of the first entry's kind -/
theorem xv_c1 (X : Stand p l e R s m args below meth c T locs cells slots) (a : Addr) {g : JFrame} (hg : g.method = m) {own nm : String} (hown : s.vm.findClass own = some m.cls) {s0 e0 h0 k0 : Nat} {tl : List (Nat × Nat × Nat × Nat)}
    (hh : c.exceptionTable.toList.map (fun h => (h.startPc, h.endPc, h.handlerPc, h.catchType)) = (s0, e0, h0, k0) :: tl) (hs : s0 ≤ g.pc) (he : g.pc < e0) (hk : k0 ≠ 0) (hlink : (Cond.classLink own k0 nm).before args s = true) {cell : Cell} (hcell : T.heap[a]? = some cell) (hobj : cell.vm = .none) (hcls : T.vm.findClass nm = some cell.cls) :
    ∃ vm', Stand p l e R s m args below meth c (T.setVm vm') locs cells slots ∧ ∀ target, Steps p.tables e below ((T.setVm vm').setTop { g with pc := h0, stack := [.ref a] }) target → Steps p.tables e below ((T.setTop g).pushFrame (.throwing a)) target := by
  cases ht : c.exceptionTable.toList with
  | nil => rw [ht] at hh; cases hh
  | cons x r =>
  rw [ht, List.map_cons] at hh
  injection hh with hx hr
  injection hx with hx1 hx
  injection hx with hx2 hx
  injection hx with hx3 hx4
  have hcT : s.vm.findClass nm = some cell.cls := by rw [← X.warmed.alike.findClass]; exact hcls
  have hpl : e.platform.magicAccessors = ({} : Platform).magicAccessors := by rw [X.admits.platform]
  obtain ⟨cA, hcA, hclA⟩ := Cond.classLink_spec hown hlink e.platform hpl
  cases hcT.symm.trans hcA
  obtain ⟨dk, _, _, kt, hd, _, _, _, _, hkt, _, hopen⟩ := hclA.here
  have hclA₀ := X.warmed.classLinks hclA
  have hWA : s.WarmedH (T.vm.noted m.cls k0 (.cls cell.cls)) := X.warmed.noted hd hopen (State.rightAt_cls hclA)
  obtain ⟨ktA, hktA, -⟩ := X.warmed.alike.2.2 _ _ hkt
  refine ⟨_, X.noted hWA, fun target hrest => ?_⟩
  subst hg
  refine xv_caught X.here (vm' := T.vm.noted g.method.cls k0 (.cls cell.cls)) (fun Q E d acts => ?_) hrest
  have hmT : ((T.setTop g).pushFrame (.throwing a)).vm.method? g.method = some meth := X.method'
  rw [W.findHandler_eq hmT X.code, ht]
  refine Iff.trans ((xv_go (x := x) (t := r) (f := g) (s := (T.setTop g).pushFrame (.throwing a)) (c := cell.cls) (cell := cell) (by simp only [covers, Bool.and_eq_true, decide_eq_true_eq]; omega) (by rw [hx4]; exact hk) (by rw [hx4]; exact hclA₀) hcell (fun k => by rw [hobj]; intro h; cases h) ⟨ktA, hktA⟩ ⟨ktA, hktA⟩).1 (va_asg _ _)) ?_
  rw [hx3, hx4]
  exact Iff.rfl
/-- one of the second's, and not of the first's -/
theorem xv_c2 (X : Stand p l e R s m args below meth c T locs cells slots) (a : Addr) {g : JFrame} (hg : g.method = m) {own nm nm1 : String} (hown : s.vm.findClass own = some m.cls) {s0 e0 h0 k0 s1 e1 h1 k1 : Nat} {tl : List (Nat × Nat × Nat × Nat)}
    (hh : c.exceptionTable.toList.map (fun h => (h.startPc, h.endPc, h.handlerPc, h.catchType)) = (s0, e0, h0, k0) :: (s1, e1, h1, k1) :: tl) (hs : s0 ≤ g.pc) (he : g.pc < e0) (hk : k0 ≠ 0) (hs1 : s1 ≤ g.pc) (he1 : g.pc < e1) (hk1 : k1 ≠ 0)
    (hlink : (Cond.classLink own k0 nm).before args s = true) (hlink1 : (Cond.classLink own k1 nm1).before args s = true) {cell : Cell} (hcell : T.heap[a]? = some cell) (hobj : cell.vm = .none) (hcls : T.vm.findClass nm1 = some cell.cls)
    (hno : ∀ c1 c2, s.vm.findClass nm1 = some c1 → s.vm.findClass nm = some c2 → s.vm.assignable c1 c2 = false) :
    ∃ vm', Stand p l e R s m args below meth c (T.setVm vm') locs cells slots ∧ ∀ target, Steps p.tables e below ((T.setVm vm').setTop { g with pc := h1, stack := [.ref a] }) target → Steps p.tables e below ((T.setTop g).pushFrame (.throwing a)) target := by
  cases ht : c.exceptionTable.toList with
  | nil => rw [ht] at hh; cases hh
  | cons x r =>
  rw [ht, List.map_cons] at hh
  injection hh with hx hr
  injection hx with hx1 hx
  injection hx with hx2 hx
  injection hx with hx3 hx4
  cases hr2 : r with
  | nil => rw [hr2] at hr; cases hr
  | cons x' r' =>
  rw [hr2, List.map_cons] at hr
  injection hr with hy hr'
  injection hy with hy1 hy
  injection hy with hy2 hy
  injection hy with hy3 hy4
  have hcT : s.vm.findClass nm1 = some cell.cls := by rw [← X.warmed.alike.findClass]; exact hcls
  have hpl : e.platform.magicAccessors = ({} : Platform).magicAccessors := by rw [X.admits.platform]
  obtain ⟨cA, hcA, hclA⟩ := Cond.classLink_spec hown hlink e.platform hpl
  obtain ⟨cB, hcB, hclB⟩ := Cond.classLink_spec hown hlink1 e.platform hpl
  cases hcT.symm.trans hcB
  obtain ⟨dk, _, _, kt, hd, _, _, _, _, hkt, _, hopen⟩ := hclA.here
  obtain ⟨dk1, _, _, kt1, hd1, _, _, _, _, hkt1, _, hopen1⟩ := hclB.here
  have hclA₀ := X.warmed.classLinks hclA
  have hWA : s.WarmedH (T.vm.noted m.cls k0 (.cls cA)) := X.warmed.noted hd hopen (State.rightAt_cls hclA)
  have hclB₀ := hWA.classLinks hclB
  have hWB : s.WarmedH ((T.vm.noted m.cls k0 (.cls cA)).noted m.cls k1 (.cls cell.cls)) := hWA.noted hd1 hopen1 (State.rightAt_cls hclB)
  have hal := X.warmed.alike
  have halA := hWA.alike
  obtain ⟨ktA, hktA, -⟩ := hal.2.2 _ _ hkt
  obtain ⟨ktB, hktB, -⟩ := hal.2.2 _ _ hkt1
  obtain ⟨ktC, hktC, -⟩ := halA.2.2 _ _ hkt1
  have hnoT : T.vm.assignable cell.cls cA = false := by rw [hal.assignable]; exact hno _ _ hcT hcA
  refine ⟨_, X.noted hWB, fun target hrest => ?_⟩
  subst hg
  refine xv_caught X.here (vm' := (T.vm.noted g.method.cls k0 (.cls cA)).noted g.method.cls k1 (.cls cell.cls)) (fun Q E d acts => ?_) hrest
  have hmT : ((T.setTop g).pushFrame (.throwing a)).vm.method? g.method = some meth := X.method'
  rw [W.findHandler_eq hmT X.code, ht, hr2]
  refine Iff.trans ((xv_go (x := x) (t := x' :: r') (f := g) (s := (T.setTop g).pushFrame (.throwing a)) (c := cA) (cell := cell) (by simp only [covers, Bool.and_eq_true, decide_eq_true_eq]; omega) (by rw [hx4]; exact hk) (by rw [hx4]; exact hclA₀) hcell (fun k => by rw [hobj]; intro h; cases h) ⟨ktB, hktB⟩ ⟨ktA, hktA⟩).2 hnoT) ?_
  rw [hx4]
  refine Iff.trans ((xv_go (x := x') (t := r') (f := g) (s := ((T.setTop g).pushFrame (.throwing a)).setVm (T.vm.noted g.method.cls k0 (.cls cA))) (c := cell.cls) (cell := cell) (by simp only [covers, Bool.and_eq_true, decide_eq_true_eq]; omega) (by rw [hy4]; exact hk1) (by rw [hy4]; exact hclB₀) hcell (fun k => by rw [hobj]; intro h; cases h) ⟨ktC, hktC⟩ ⟨ktC, hktC⟩).1 (va_asg _ _)) ?_
  rw [hy3, hy4]
  exact Iff.rfl
end XT5
def kb_X (dC : Nat → ClassId) (dI : Nat → Nat → Nat) (cB cI cJ : ClassId) (w : va_W) (sz : Nat) (U : State) : Prop := kb_B dC dI cB cI cJ w sz U ∧ xk U
theorem kbx_blind {dC : Nat → ClassId} {dI : Nat → Nat → Nat} {cB cI cJ : ClassId} {w : va_W} {sz : Nat} {av : List Value} : FrameBlind (va_Pc av (kb_X dC dI cB cI cJ w sz)) := fun a U g mk q => by
  obtain ⟨q0, q1, q2⟩ := q
  have h := kb_blind a U g mk ⟨q0, q1⟩
  exact ⟨q0, h.2, xk_h (U := U) (V := U.calling g mk a) rfl (KS.refl _) q2⟩
theorem kbx_at {dC : Nat → ClassId} {dI : Nat → Nat → Nat} {cB cI cJ : ClassId} {w : va_W} {A : Nat → Prop} {av : List Value} {s : State} {H : Heap} (hP : va_P (dC, dI) vwCl w H) (hD : va_D A w) (hK : kx dC dI cB cI cJ s) (hx : xk s) (hks : KS s.heap H) : ∀ U : State, U.heap = H → s.WarmedH U.vm → va_Pc av (kb_X dC dI cB cI cJ w H.size) av.toArray U := fun U hU hW =>
  ⟨rfl, (kb_at (av := av) hP hD hK U hU hW).2, xk_at hx hks U hU hW⟩
theorem xt_end {D : va_G} {cl : List vw_C} {ws : va_W} {H : Heap} {t : State} (h : va_P D cl ws H) (h5 : ∀ q : Nat, q < H.size → t.heap[q]? = H[q]?) : va_P D cl ws t.heap := h.kept (fun k q hk => h5 _ (h k q hk).lt)
theorem xt_F {A : Nat → Prop} {s t : State} {H : Heap} {locs : List Loc} (hS : va_S A s.heap H locs) (h4 : H.size ≤ t.heap.size) (h5 : ∀ q : Nat, q < H.size → t.heap[q]? = H[q]?) : va_F A s t := ⟨Nat.le_trans hS.1 h4, fun q q1 q2 => by rw [h5 q (Nat.lt_of_lt_of_le q1 hS.1)]; exact hS.2.1 q q1 q2⟩
