/-! methods that throw: contract, throw, call and catch -/
/-- a static field that holds a reference -/
def xt_Z (C n d : String) (A : Nat → Prop) (U : State) (H : Heap) : Prop := ∃ (c : ClassId) (k : Class) (i : Nat) (f : Field) (a : Nat) (cell : Cell) (u : Value), U.vm.findClass C = some c ∧ U.fieldFound? C n d = some (c, k, i, f) ∧ f.isStatic = true ∧ k.statics = some a ∧ H[a]? = some cell ∧ cell.vm.isStatics = true ∧ cell.cls = c ∧ f.slot < cell.slots.size ∧ k.staticTypes[f.slot]? = some f.type ∧ cell.slots[f.slot]? = some u ∧ (u = .null ∨ ∃ z, u = .ref z) ∧ ¬ A a
theorem xt_Z.moved {C n d : String} {A : Nat → Prop} {u U : State} {H : Heap} (hvm : u.vm.Alike U.vm) (h : xt_Z C n d A u H) : xt_Z C n d A U H := by
  obtain ⟨c, k, i, f, a, cell, v, h0, h1, h2, h3, h4, h5, h6, h7, h8, h9⟩ := h
  obtain ⟨k', hi', he⟩ := State.fieldFound?_setVm hvm h1
  exact ⟨c, k', i, f, a, cell, v, by rw [hvm.findClass]; exact h0, hi', h2, by rw [he]; exact h3, h4, h5, h6, h7, by rw [he]; exact h8, h9⟩
theorem xt_Z.kept {C n d : String} {A : Nat → Prop} {U : State} {H H1 : Heap} (h : xt_Z C n d A U H) (hq : ∀ a : Nat, a < H.size → ¬ A a → H1[a]? = H[a]?) : xt_Z C n d A U H1 := by
  obtain ⟨c, k, i, f, a, cell, v, h0, h1, h2, h3, h4, h5, h6, h7, h8, h9, h11, h10⟩ := h
  exact ⟨c, k, i, f, a, cell, v, h0, h1, h2, h3, by rw [hq a (Array.getElem?_eq_some_iff.mp h4).1 h10]; exact h4, h5, h6, h7, h8, h9, h11, h10⟩
theorem xt_Z.narrow {C n d : String} {A B : Nat → Prop} {U : State} {H : Heap} (h : xt_Z C n d A U H) (hAB : ∀ q, B q → A q) : xt_Z C n d B U H := by
  obtain ⟨c, k, i, f, a, cell, v, h0, h1, h2, h3, h4, h5, h6, h7, h8, h9, h11, h10⟩ := h
  exact ⟨c, k, i, f, a, cell, v, h0, h1, h2, h3, h4, h5, h6, h7, h8, h9, h11, fun q => h10 (hAB a q)⟩
theorem xt_Z.of {args : Array Value} {C n d : String} {A : Nat → Prop} {s : State} (h1 : (Cond.laysStatic C n d).before args s = true) (h2 : (Cond.isRef (.static C n d)).before args s = true) (hA : ∀ a : Nat, a < s.heap.size → ¬ A a) : xt_Z C n d A s s.heap := by
  obtain ⟨c, k, i, f, a, cell, g1, g2, g3, g4, g5, g6, g7, g8, g9⟩ := Cond.laysStatic_spec h1
  obtain ⟨u, hu, huv⟩ : ∃ u, (Term.static C n d).eval args s none [] s = some u ∧ (u = .null ∨ ∃ z, u = .ref z) := by
    simp only [Cond.before, Cond.holds, Cond.value] at h2
    cases hv : (Term.static C n d).eval args s none [] s with
    | none => simp [hv] at h2
    | some v =>
      refine ⟨v, rfl, ?_⟩
      cases v <;> first | exact Or.inl rfl | exact Or.inr ⟨_, rfl⟩ | (simp [hv] at h2)
  obtain ⟨-, a', cell', q1, q2, -, q3⟩ := Term.static_spec g2 hu
  cases g4.symm.trans q1
  cases g5.symm.trans q2
  exact ⟨c, k, i, f, a, cell, u, g1, g2, g3, g4, g5, g6, g7, g8, g9, q3, huv, hA a (Array.getElem?_eq_some_iff.mp g5).1⟩
theorem xt_isRef {args : Array Value} {C n d : String} {A : Nat → Prop} {s : State} (h : xt_Z C n d A s s.heap) : (Cond.isRef (.static C n d)).before args s = true ∧ (Cond.laysStatic C n d).before args s = true := by
  obtain ⟨c, k, i, f, a, cell, u, h0, h1, h2, h4, h5, h6, hc, hl, ht, h7, hu, -⟩ := h
  have e : (Term.static C n d).eval args s none [] s = some u := by
    simp only [Term.eval, State.fieldNamed?, h1, Option.bind_eq_bind, Option.bind_some, h2, beq_self_eq_true, if_true, Option.pure_def, h4, h5, h6, h7]
  refine ⟨by rcases hu with rfl | ⟨z, rfl⟩ <;> simp [Cond.before, Cond.holds, Cond.value, e], ?_⟩
  subst hc
  simp [Cond.before, Cond.holds, Cond.value, h0, h1, h2, h4, h5, h6, hl, ht]
section
variable {p : Program} {l : Launch} {e : Env} {R : Room} {s : State} {m : MethodId} {args : Array Value} {below : List Frame} {meth : Method} {c : Code} {T : State} {locs : List Loc} {cells slots : Nat}
/-- the walk goes on as if it had begun here -/
theorem xt_rebase (X : Stand p l e R s m args below meth c T locs cells slots) {R' : Room} (h1 : R'.frames ≤ R.frames) (h2 : R'.locals ≤ R.locals) (h3 : cells + R'.cells ≤ R.cells) (h4 : slots + R'.slots ≤ R.slots) :
    Stand p l e R' (T.setFrames (.invoking m args :: below)) m args below meth c T [] 0 0 := by
  obtain ⟨g₀, hr⟩ := X.frames_eq
  have hcur : T.cur < T.threads.size := State.cur_lt_of_frames hr
  obtain ⟨th, hth, -⟩ := State.frames_cons hr
  have hf : (T.setFrames (.invoking m args :: below)).frames = .invoking m args :: below := State.frames_setFrames _ hcur
  have hmeth : (T.setFrames (.invoking m args :: below)).vm.method? m = some meth := X.method'
  obtain ⟨q1, q2⟩ := X.heapHas h3 h4
  have hroom := X.room
  have hv : ∀ x, (T.setFrames (.invoking m args :: below)).vm.method? x = s.vm.method? x := fun x => X.warmed.alike.method? x
  have hc : ∀ x, (T.setFrames (.invoking m args :: below)).code? x = s.code? x := fun x => by rw [State.code?_eq, State.code?_eq, hv]
  refine ⟨X.admits, X.cas, X.clock, hf, ?_, ?_, hmeth, X.code, X.here, X.tail, State.WarmedH.refl _, ?_, ?_, ?_⟩
  · have e1 := State.localsInUse_invoking X.frames X.method X.code
    have e2 := State.localsInUse_invoking hf hmeth X.code
    simp only [State.hasRoom, Bool.and_eq_true, decide_eq_true_eq] at hroom ⊢
    rw [e1, X.frames] at hroom
    rw [e2, hf, State.stackLimits_setFrames, X.limits, State.stackBytes_setFrames, X.bytes]
    obtain ⟨⟨⟨⟨a1, a2, a3, a4, a5, a6⟩, a7⟩, a8⟩, a9⟩ := hroom
    refine ⟨⟨⟨⟨by omega, by omega, by omega, by omega, by omega, a6⟩, q1⟩, q2⟩, X.book⟩
  · have hh := X.hears
    have : State.hears (T.setFrames (.invoking m args :: below)) m below = State.hears s m below := by
      unfold State.hears
      simp only [hc, hv]
    rw [this]; exact hh
  · rw [State.stackLimits_setFrames]
  · rw [State.stackBytes_setFrames]
  · obtain ⟨t2, ht2, -⟩ := State.frames_cons hf
    have h := (State.sameButNew.refl (T.setFrames (.invoking m args :: below)) ht2).setFrames T.frames (State.cur_lt_of_frames hf)
    rw [State.setFrames_setFrames, State.setFrames_self hth] at h
    exact h
end
/-- old cells are as they were -/
theorem xt_keep {s t : State} {k n : Nat} (h : s.sameButNew t [] k n) (q : Nat) (hq : q < s.heap.size) : t.heap[q]? = s.heap[q]? := by
  obtain ⟨-, -, -, -, -, h6⟩ := h
  obtain ⟨c0, hc0⟩ : ∃ c0, s.heap[q]? = some c0 := ⟨s.heap[q], Array.getElem?_eq_getElem hq⟩
  obtain ⟨c', g1, g2, g3, g4⟩ := h6 q c0 hc0
  have : c'.slots = c0.slots := Array.ext_getElem? (fun i => g4 i (by simp))
  rw [g1, hc0, g2, this]
/-- what throws ask of the tables: words that are no good ones -/
def xt_ini (C : String) : MethodName := ⟨C, "<init>", "()V"⟩
def xt_L : List Cond := [.declares (xt_ini "java/lang/RuntimeException"), .declares (xt_ini "java/lang/Exception"), .declares (xt_ini "java/lang/Throwable"), .castable "java/util/NoSuchElementException" "java/util/NoSuchElementException", .castable "java/lang/IllegalArgumentException" "java/lang/IllegalArgumentException", .castable "java/lang/IllegalStateException" "java/lang/IllegalStateException", .castable "java/lang/UnsupportedOperationException" "java/lang/UnsupportedOperationException"]
def xt_N : List (String × String) := [("java/lang/IllegalArgumentException", "java/util/NoSuchElementException"), ("java/lang/IllegalStateException", "java/util/NoSuchElementException"), ("java/lang/IllegalStateException", "java/lang/IllegalArgumentException"), ("java/lang/UnsupportedOperationException", "java/util/NoSuchElementException"), ("java/lang/UnsupportedOperationException", "java/lang/IllegalArgumentException")]
def xt_no (X Y : String) (U : State) : Prop := ∀ cX cY, U.vm.findClass X = some cX → U.vm.findClass Y = some cY → U.vm.assignable cX cY = false
def xt_S : List Cond := [.isRef (.static "java/lang/Throwable" "UNASSIGNED_STACK" "[Ljava/lang/StackTraceElement;"), .isRef (.static "java/lang/Throwable" "SUPPRESSED_SENTINEL" "Ljava/util/List;"), .laysStatic "java/lang/Throwable" "UNASSIGNED_STACK" "[Ljava/lang/StackTraceElement;", .laysStatic "java/lang/Throwable" "SUPPRESSED_SENTINEL" "Ljava/util/List;"]
def xt_K (A : Nat → Prop) (U : State) (H : Heap) : Prop := (∀ w ∈ xt_L, va_Nw w U) ∧ (∀ q ∈ xt_N, xt_no q.1 q.2 U) ∧ xt_Z "java/lang/Throwable" "UNASSIGNED_STACK" "[Ljava/lang/StackTraceElement;" A U H ∧ xt_Z "java/lang/Throwable" "SUPPRESSED_SENTINEL" "Ljava/util/List;" A U H
theorem xt_Lm {u U : State} (hal : u.vm.Alike U.vm) : ∀ w ∈ xt_L, va_Nw w u → va_Nw w U := by
  have hD : ∀ x : MethodName, va_Nw (.declares x) u → va_Nw (.declares x) U := fun x hZ => va_tabs rfl (rfl : (u.setVm U.vm).vm = U.vm) (by rw [Cond.declares_setVm hal]; exact hZ)
  have hC : ∀ a b : String, va_Nw (.castable a b) u → va_Nw (.castable a b) U := fun a b hZ => va_tabs rfl (rfl : (u.setVm U.vm).vm = U.vm) (by rw [Cond.castable_setVm hal]; exact hZ)
  intro w hw
  simp only [xt_L, List.mem_cons, List.not_mem_nil, or_false] at hw
  rcases hw with rfl | rfl | rfl | rfl | rfl | rfl | rfl
  · exact hD _
  · exact hD _
  · exact hD _
  · exact hC _ _
  · exact hC _ _
  · exact hC _ _
  · exact hC _ _
theorem xt_K.moved {A : Nat → Prop} {u U : State} {H : Heap} (hal : u.vm.Alike U.vm) (h : xt_K A u H) : xt_K A U H := by
  obtain ⟨h1, h2, h3, h4⟩ := h
  refine ⟨fun w hw => xt_Lm hal w hw (h1 w hw), fun q hq cX cY hX hY => ?_, h3.moved hal, h4.moved hal⟩
  rw [hal.findClass] at hX hY
  rw [hal.assignable]
  exact h2 q hq cX cY hX hY
theorem xt_K.kept {A : Nat → Prop} {U : State} {H H1 : Heap} (h : xt_K A U H) (hq : ∀ a : Nat, a < H.size → ¬ A a → H1[a]? = H[a]?) : xt_K A U H1 := by
  obtain ⟨h1, h2, h3, h4⟩ := h
  exact ⟨h1, h2, h3.kept hq, h4.kept hq⟩
theorem xt_K.narrow {A B : Nat → Prop} {U : State} {H : Heap} (h : xt_K A U H) (hAB : ∀ q, B q → A q) : xt_K B U H := by
  obtain ⟨h1, h2, h3, h4⟩ := h
  exact ⟨h1, h2, h3.narrow hAB, h4.narrow hAB⟩
theorem xt_K.words {A : Nat → Prop} {s : State} {args : Array Value} (h : xt_K A s s.heap) : ∀ w ∈ xt_L ++ xt_S, w.before args s = true := by
  intro w hw
  rcases List.mem_append.mp hw with hw | hw
  · have h1 := h.1 w hw
    simp only [xt_L, List.mem_cons, List.not_mem_nil, or_false] at hw
    rcases hw with rfl | rfl | rfl | rfl | rfl | rfl | rfl <;> exact va_Nw.use rfl h1
  · obtain ⟨-, -, h3, h4⟩ := h
    simp only [xt_S, List.mem_cons, List.not_mem_nil, or_false] at hw
    rcases hw with rfl | rfl | rfl | rfl
    · exact (xt_isRef h3).1
    · exact (xt_isRef h4).1
    · exact (xt_isRef h3).2
    · exact (xt_isRef h4).2
/-- how an invocation that throws has ended -/
def xt_End (first : State) (o : Outcome) (t : State) (L : List Loc) (k n : Nat) : Prop := (∃ x, o = .threw x) ∧ first.WarmedH t.vm ∧ first.sameButNew ({ t with vm := first.vm } : State) L k n
def xt_Met (l : Launch) (y : MethodName) (ws : List Cond) (rm : Room) (Pc : Array Value → State → Prop) (Qc : Array Value → State → Addr → State → Prop) (mc ms : Nat) (free : Addr → Prop) : Prop :=
  MetFree l y (headSpec ws rm) Pc (fun _ _ _ _ _ => True) (fun a st o t => ∃ x, o = .threw x ∧ Qc a st x t ∧ ∃ L, xt_End st o t L mc ms ∧ ∀ q ∈ L, free q.base)
def xt_MQ (below : List Frame) (Qc : Array Value → State → Addr → State → Prop) (a : Array Value) (s : State) (mc ms : Nat) (free : Addr → Prop) : State → Prop := fun t =>
  ∃ x, t.status = .running ∧ Ended t below (.threw x) ∧ Qc a s x t ∧ ∃ L, xt_End s (.threw x) t L mc ms ∧ ∀ q ∈ L, free q.base
theorem xt_ofW {l : Launch} {y : MethodName} {ws ws' : List Cond} {rm : Room} {Pc : Array Value → State → Prop} {Qc : Array Value → State → Addr → State → Prop} {mc ms : Nat} {free : Addr → Prop} {cc : ByteArray} {maxL : Nat} {ret : Option FieldType}
    (hy : plainName y.cls = true) (hw : ws = Cond.code y cc maxL ret :: ws')
    (body : ∀ p e s m args below meth c s₁, BodyLoose p l y (headSpec ws rm) cc maxL ret e s m args below meth c s₁ → c.maxLocals = maxL → Pc args s →
      W p l e (headSpec ws rm).room s m args below meth c s.heap [] 0 0 (xt_MQ below Qc args s mc ms free) (entryFrame m args maxL)) : xt_Met l y ws rm Pc Qc mc ms free := by
  refine MetFree.of_bodyS (code := cc) (maxLocals := maxL) (ret := ret) hy ?_ ?_
  · intro args s m h hn
    obtain ⟨meth, c, h1, h2, h3, h4, h5, h6, -, -⟩ := Cond.code_spec hn (atoms_spec (ws := ws) h _ (by rw [hw]; exact List.mem_cons_self))
    exact ⟨meth, c, h1, h2, h3, h4, h5, h6⟩
  · intro p e s m args below meth c s₁ B hml hP _
    have hh0 : s₁.heap = s.heap := by rw [B.state]; rfl
    obtain ⟨t, a1, x, b1, b2, b3⟩ := body p e s m args below meth c s₁ B hml hP s₁ hh0 (Stand.of_body B)
    exact ⟨t, .threw x, a1, b1, b2, x, rfl, b3.1, b3.2⟩
section
variable {p : Program} {l : Launch} {e : Env} {R : Room} {s : State} {m : MethodId} {args : Array Value} {below : List Frame} {meth : Method} {c : Code} {H : Heap} {locs : List Loc} {cells slots : Nat} {Q : State → Prop}
/-- what is known behind a throw -/
def xt_Q (cls : String) (B : State → Prop) (A : Nat → Prop) : Array Value → State → Addr → State → Prop := fun _ st x t =>
  (∃ ce, t.heap[x]? = some ce ∧ ce.vm.isStatics = false ∧ st.vm.findClass cls = some ce.cls) ∧ B t ∧ va_F A st t
variable {cc : ByteArray} {ls : Array Slot} {pc : Nat} {A : Nat → Prop}
/-- new, constructor, throw -/
theorem xt_throw {own cls : String} {names : List String} {ixN ic nL : Nat} {rest : List Value} {free : Addr → Prop} {Qc : Array Value → State → Addr → State → Prop}
    (hfl : l.flags = flags0) (hx : p.tables.exec = Jvm.exec) (hb : c.code = cc) (hml : c.maxLocals = nL) (hsz : ls.size = nL) (hown : s.vm.findClass own = some m.cls) (hts : ∀ w ∈ smT, w.before args s = true) (hlocks : meth.locks = false) (htab : c.exceptionTable.toList = [])
    (hk : xt_K A s s.heap) (hS : va_S A s.heap H locs)
    (hcls : Bundle.fit cls = true) (hnames : ∀ n ∈ names, Bundle.fit n = true) (w1 : Cond.classLink own ixN cls ∈ smT) (w2 : Cond.instantiable cls 6 ∈ smT) (w3 : Cond.initialized cls ∈ smT)
    (hat : ∀ w ∈ Bundle.ownAtoms0 own ic cls names, w ∈ smT ∨ w ∈ xt_L ++ xt_S)
    (d0 : decode cc pc = .ok (.new ixN, 3)) (d1 : decode cc (pc + 3) = .ok (.dup, 1)) (d2 : decode cc (pc + 4) = .ok (.invokespecial ic, 3)) (d3 : decode cc (pc + 7) = .ok (.athrow, 1))
    (hrest : (rest.map fun v => v.category).sum ≤ 8) (hfr : names.length + 3 < R.frames) (hlo : 13 * (names.length + 1) + 60 ≤ R.locals) (hce : cells + 1 ≤ R.cells) (hsl : slots + 6 ≤ R.slots)
    (hq : ∀ (x : Addr) (t : State) (ce : Cell), t.heap[x]? = some ce → ce.vm.isStatics = false → s.vm.findClass cls = some ce.cls → (∀ q, q < H.size → t.heap[q]? = H[q]?) → H.size ≤ t.heap.size → s.WarmedH t.vm → Qc args s x t)
    (hf : ∀ q ∈ locs, free q.base) : W p l e R s m args below meth c H locs cells slots (xt_MQ below Qc args s (cells + 1) (slots + 6) free) (F0 m pc ls rest) := by
  intro T hT X
  have X' := xt_rebase X (R' := { frames := R.frames, locals := R.locals, cells := 1, slots := 6 }) (Nat.le_refl _) (Nat.le_refl _) hce hsl
  obtain ⟨s', hs'⟩ : ∃ s', T.setFrames (.invoking m args :: below) = s' := ⟨_, rfl⟩
  rw [hs'] at X'
  have hvm : s'.vm = T.vm := by rw [← hs']; rfl
  have hhp : s'.heap = H := by rw [← hs', ← hT]; rfl
  have hW : s.WarmedH s'.vm := by rw [hvm]; exact X.warmed
  have hts' : ∀ w ∈ smT, w.before args s' = true := fun w hw => word_at hW (good_of_word (sm_good w hw)) (hts w hw)
  have hk' : xt_K A s' s'.heap := by rw [hhp]; exact (hk.kept hS.2.1).moved hW.alike
  have hown' : s'.vm.findClass own = some m.cls := by rw [hW.alike.findClass]; exact hown
  have K : W p l e { frames := R.frames, locals := R.locals, cells := 1, slots := 6 } s' m args below meth c H [] 0 0 (fun t => ∃ x, t.status = .running ∧ Ended t below (.threw x) ∧ s'.WarmedH t.vm ∧ s'.sameButNew ({ t with vm := s'.vm } : State) [] 1 6 ∧ ∃ ce, t.heap[x]? = some ce ∧ ce.vm.isStatics = false ∧ s'.vm.findClass cls = some ce.cls) (F0 m pc ls rest) := by
    refine W.newc hx hb hown' (hts' _ w1) (hts' _ w2) (hts' _ w3) rfl d0 (by show 0 + 1 ≤ 1; omega) (by show 0 + 6 ≤ 6; omega) (fun cC kC g1 g2 g3 g4 => ?_)
    refine W.eq (g2 := F0 m (pc + 3) ls (.ref H.size :: rest)) rfl ?_
    refine lv_dup hx hb d1 rfl ?_
    intro T1 hT1 X1
    obtain ⟨U, st, hrun, hend, hWU, hsame, ce, hce, hoc⟩ := X1.ctorThrow0 hx (Jvm.D.Launch.traces_off hfl X.admits) (own := own) (cls := cls) (names := names) (ic := ic) hown' hcls hnames
      (fun w hw => (hat w hw).elim (fun h => hts' w h) (fun h => hk'.words w h)) (fun x hx => by simp at hx) (a := H.size) g1 g2 (by rw [hT1, Array.getElem?_push, if_pos rfl]) (by rw [hhp]; exact Nat.le_refl _)
      (g := F0 m (pc + 3 + 1) ls (.ref H.size :: .ref H.size :: rest)) rfl (by rw [hml]; exact hsz) rfl rfl rfl (by rw [hb]; exact d2) (by rw [hb]; exact d3) (by rw [htab]; simp)
      hfr (by show 2 * 0 + (1 + (rest.map fun v => v.category).sum) + (13 * (names.length + 1) + 41) ≤ R.locals; omega) hlocks
    exact ⟨U, st, H.size, hrun, hend, hWU, hsame, ce, hce, by rw [hoc.vm]; rfl, hoc.cls⟩
  obtain ⟨t, st, x, hrun, hend, hWt, hsame, ce, hcex, hcev, hcec⟩ := K T hT X'
  refine ⟨t, st, x, hrun, hend, ?_, locs, ⟨⟨x, rfl⟩, ?_, ?_⟩, hf⟩
  · refine hq x t ce hcex hcev ?_ (fun q hq' => ?_) ?_ (State.WarmedH.trans hW hWt)
    · rw [← hW.alike.findClass]; exact hcec
    · have := xt_keep hsame q (by rw [hhp]; exact hq')
      rw [hhp] at this
      exact this
    · rw [← hhp]; exact hsame.2.1
  · exact State.WarmedH.trans hW hWt
  · have hs2 : T.sameButNew ({ t with vm := T.vm } : State) [] 1 6 := by
      rw [hvm, ← hs'] at hsame
      obtain ⟨k1, k2⟩ := hsame
      refine ⟨?_, k2⟩
      rw [State.setFrames_setFrames] at k1
      exact k1
    have := X.same.trans (hs2.setVm s.vm)
    rw [List.append_nil] at this
    exact this
end
