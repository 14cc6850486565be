/-! the call of a method that throws, and the catch -/
section
variable {p : Program} {l : Launch} {e : Env} {R : Room} {s : State} {m : MethodId} {args : Array Value} {below : List Frame} {meth : Method} {c : Code} {H : Heap} {locs : List Loc} {cells slots : Nat} {Q : State → Prop}
variable {cc : ByteArray} {ls : Array Slot} {pc : Nat}
theorem xt_callV {T : State} (X : Stand p l e R s m args below meth c T locs cells slots) (hexec : p.tables.exec = Jvm.exec) {own C : String} {index : Nat} {y : MethodName} {bytes : ByteArray} {maxL mc ms : Nat} {ret : Option FieldType} {ws : List Cond} {rm : Room} {Pc : Array Value → State → Prop} {Qc : Array Value → State → Addr → State → Prop} {free : Addr → Prop}
    (hown : s.vm.findClass own = some m.cls) (hlink : (Cond.methodLink own index y).before args s = true) (hinst : (Cond.instanceMethod y).before args s = true) (hsel : (Cond.selects C y y).before args s = true)
    (hcode : (Cond.code y bytes maxL ret).before args s = true) (hy : y.cls ≠ "java/lang/invoke/MethodHandle" ∧ y.cls ≠ "java/lang/invoke/VarHandle")
    (hM : xt_Met l y ws rm Pc Qc mc ms free) (hblind : FrameBlind Pc) (hrc : rm.cells = mc) (hrs : rm.slots = ms) (hframes : rm.frames + 1 ≤ R.frames) (hlocals : 8 + (maxL + 11) + rm.locals ≤ R.locals) (hcs : cells + mc ≤ R.cells) (hss : slots + ms ≤ R.slots)
    (hws : ∀ w ∈ ws, ∀ a' U, s.WarmedH U.vm → w.before a' U = true) (hinit : ∀ a' U, s.WarmedH U.vm → (Cond.initialized y.cls).before a' U = true)
    {b : Addr} {cellB : Cell} (hcell : T.heap[b]? = some cellB) (hobj : cellB.vm.isStatics = false) (hcls : s.vm.findClass C = some cellB.cls)
    {g : JFrame} (hg : g.method = m) (hsize : g.locals.size = c.maxLocals) {argsL rest : List Value} (hlen : ∀ sig, parseMethodDescriptor y.desc = some sig → argsL.length = sig.parameters.length)
    (hstack : g.stack = argsL.reverse ++ .ref b :: rest) (hW : 2 * g.monitorRoom + (rest.map fun v => v.category).sum ≤ 8) (hdg : decode c.code g.pc = .ok (.invokevirtual index, 3))
    (hpre : ∀ vm₁, s.WarmedH vm₁ → Pc (Value.ref b :: argsL).toArray (T.setVm vm₁)) :
    ∃ (v : Addr) (vm₁ : Vm) (g' : JFrame) (mk : MethodId) (t T' : State) (L : List Loc), s.WarmedH vm₁ ∧ Stand p l e R s m args below meth c T' (locs ++ L) (cells + mc) (slots + ms) ∧ (∀ q ∈ L, free q.base) ∧ T'.heap = t.heap ∧ T'.vm = t.vm ∧ Qc (Value.ref b :: argsL).toArray ((T.setVm vm₁).calling g' mk (Value.ref b :: argsL).toArray) v t ∧
      Steps p.tables e below (T.setTop g) ((T'.setTop { g with stack := rest }).pushFrame (.throwing v)) := by
  obtain ⟨mk, methM, hnamed, hmethM, hstM, habM⟩ := Cond.instanceMethod_spec hinst
  obtain ⟨methM', cM, hmethM', hcM, -, hlM, -, -, -, hsigM⟩ := Cond.code_spec hnamed hcode
  cases hmethM.symm.trans hmethM'
  obtain ⟨c2, r2, m2, q1, q2, q3, q4, kP, hkP, hkPi⟩ := Cond.selects_spec hsel
  cases hcls.symm.trans q1
  cases (State.methodFound?_of_named hnamed hy).symm.trans q2
  cases hnamed.symm.trans q3
  have hselP : selectMethod e.platform s.vm cellB.cls mk = .method mk := by rw [Launch.admits_selectMethod X.admits]; exact q4
  obtain ⟨vm₁, X₁, hstep₁⟩ := X.invokevirtual hexec hown hlink hnamed hmethM hstM hkP hkPi hy (a := b) (cell := cellB) hcell (fun z h => by rw [h] at hobj; cases hobj) hselP hmethM habM hkP hkPi (g := g) hg (argsL := argsL) (rest := rest) (hlen _ hsigM) hstack hdg
  obtain ⟨g1, hg1⟩ : ∃ g1, ({ g with stack := rest } : JFrame) = g1 := ⟨_, rfl⟩
  rw [hg1] at hstep₁ ⊢
  have e1 : g1.method = m := by rw [← hg1]; exact hg
  have e2 : g1.locals.size = c.maxLocals := by rw [← hg1]; exact hsize
  have e3 : decode c.code g1.pc = .ok (.invokevirtual index, 3) := by rw [← hg1]; exact hdg
  have e4 : 2 * g1.monitorRoom + (g1.stack.map fun v => v.category).sum ≤ 8 := by rw [← hg1]; exact hW
  have hn1 : (T.setVm vm₁).methodNamed? y = some mk := X₁.named hnamed
  obtain ⟨kY, hkY, -⟩ := className_of_methodNamed hn1
  have hiY : kY.init = .initialized := Cond.initialized_spec (findClass_of_methodNamed hn1) hkY (hinit #[] _ X₁.warmed)
  have hm1 : (T.setVm vm₁).vm.method? mk = some methM := by rw [X₁.warmed.alike.method?]; exact hmethM
  have h : At (T.setVm vm₁) g1.method c below := by rw [e1]; exact X₁.here
  have happ : (headSpec ws rm).appliesLoose y e.platform ((T.setVm vm₁).calling g1 mk (Value.ref b :: argsL).toArray) = true :=
    Spec.appliesLoose_calling (S := headSpec ws rm) (g := g1) h e3 hn1 hkY hiY (X₁.room_calling (g := g1) (R' := rm) e2 hm1 hcM hframes (by rw [hlM]; omega) (by rw [hrc]; exact hcs) (by rw [hrs]; exact hss)) (atoms_intro fun w hw => hws w hw _ _ X₁.warmed)
  have hfr : ((T.setVm vm₁).setTop g1).frames = [Frame.java g1] ++ below := by rw [State.frames_setTop' g1 h.top, X₁.tail]; rfl
  obtain ⟨o, s₂, hsteps, -, hend, x, ho, hq, L, ⟨-, hW₂, hsame⟩, hL⟩ := Steps.callFree hM p X.admits X.cas X.clock (acts := []) hfr happ (hblind _ _ g1 mk (hpre vm₁ X₁.warmed)) trivial
  subst ho
  rw [hfr] at hend
  obtain ⟨T', XT, -, -, ht⟩ := X₁.outOfThrown (g := g1) e1 hend hW₂ hsame
  refine ⟨x, vm₁, g1, mk, s₂, T', L, X₁.warmed, XT, hL, ?_, ?_, hq, hstep₁ _ fun acts => ?_⟩
  · rw [ht]; exact (Stand.throwing_heap T' g1 x).symm
  · rw [ht]; exact (Stand.throwing_vm T' g1 x).symm
  · rw [doInvoke_state, ← ht]; exact hsteps
/-- one row of the table: its class is linked, then it takes the object or doesn't -/
theorem xs_row {Q : Handler → Pre} {E : CtlPost} {e : Env} {d : Bool} {acts : List Action} {s : State} {f : JFrame} {a : Addr} {x : ExceptionTableEntry} {t : List ExceptionTableEntry} {c : ClassId} {cell : Cell} (hx : covers x f.pc = true) (h0 : x.catchType ≠ 0)
    (hl : s.vm.ClassLinks e.platform f.method.cls x.catchType c) (hcell : s.heap[a]? = some cell) (hobj : ∀ k, cell.vm ≠ .statics k) (hk : ∃ k, s.vm.classes[cell.cls]? = some k) (hc : ∃ k, s.vm.classes[c]? = some k) :
    wp (findHandler.go f a (x :: t)) Q E e d acts s ↔ (if s.vm.assignable cell.cls c = true then Q (.found x.handlerPc) d acts (s.setVm (s.vm.noted f.method.cls x.catchType (.cls c))) else wp (findHandler.go f a t) Q E e d acts (s.setVm (s.vm.noted f.method.cls x.catchType (.cls c)))) := by
  have hcov : (decide (x.startPc ≤ f.pc) && decide (f.pc < x.endPc)) = true := hx
  have hal : s.vm.Alike (s.vm.noted f.method.cls x.catchType (.cls c)) := (Vm.Alike.refl s.vm).noted _ _ _
  have hr := (resolveClass_links e.toSetting hl).op (op := VmOp.resolveClass f.method.cls x.catchType) rfl
  obtain ⟨k1, g1⟩ := hk
  obtain ⟨k2, g2⟩ := hc
  obtain ⟨n1, g3, -⟩ := hal.2.2 _ _ g1
  obtain ⟨n2, g4, -⟩ := hal.2.2 _ _ g2
  have hasg := hal.assignable cell.cls c
  cases hfit : s.vm.assignable cell.cls c <;> rw [hfit] at hasg <;> simp [findHandler.go, hcov, h0, hr.1, hr.2, hcell, hobj, g3, g4, hasg, VmOp.dirties, VmOp.acts]
/-- the search through rows that don't take it, to one that does -/
theorem xs_find {e : Env} {s₀ : State} {f : JFrame} {a : Addr} {cell : Cell} (hobj : ∀ k, cell.vm ≠ .statics k) (hk : ∃ k, s₀.vm.classes[cell.cls]? = some k) (x : ExceptionTableEntry) (post : List ExceptionTableEntry) (hx : covers x f.pc = true) (h0 : x.catchType ≠ 0) {cx : ClassId} (hl : s₀.vm.ClassLinks e.platform f.method.cls x.catchType cx) (hc : ∃ k, s₀.vm.classes[cx]? = some k) (hfit : s₀.vm.assignable cell.cls cx = true) :
    ∀ (pre : List ExceptionTableEntry) (S : State), s₀.WarmedH S.vm → S.heap[a]? = some cell → (∀ y ∈ pre, y.catchType ≠ 0 ∧ ∃ cy, s₀.vm.ClassLinks e.platform f.method.cls y.catchType cy ∧ (∃ k, s₀.vm.classes[cy]? = some k) ∧ s₀.vm.assignable cell.cls cy = false) →
      ∃ vm', s₀.WarmedH vm' ∧ ∀ (Q : Handler → Pre) (E : CtlPost) (d : Bool) (acts : List Action), wp (findHandler.go f a (pre ++ x :: post)) Q E e d acts S ↔ Q (.found x.handlerPc) d acts (S.setVm vm') := by
  have cls : ∀ {S : State} {c : ClassId}, s₀.WarmedH S.vm → (∃ k, s₀.vm.classes[c]? = some k) → ∃ k, S.vm.classes[c]? = some k := by
    intro S c hW ⟨k, h⟩
    obtain ⟨k', h', -⟩ := hW.alike.2.2 _ _ h
    exact ⟨k', h'⟩
  have warm : ∀ {S : State} {ct : Nat} {c : ClassId}, s₀.WarmedH S.vm → s₀.vm.ClassLinks e.platform f.method.cls ct c → s₀.WarmedH (S.vm.noted f.method.cls ct (.cls c)) := by
    intro S ct c hW h
    obtain ⟨dk, _, _, kt, hd, _, _, _, _, hkt, _, hopen⟩ := h.here
    exact hW.noted hd hopen (State.rightAt_cls h)
  intro pre
  induction pre with
  | nil =>
    intro S hW hcell _
    refine ⟨_, warm hW hl, fun Q E d acts => ?_⟩
    rw [List.nil_append, xs_row hx h0 (hW.classLinks hl) hcell hobj (cls hW hk) (cls hW hc), if_pos (by rw [hW.alike.assignable]; exact hfit)]
  | cons y ys ih =>
    intro S hW hcell hp
    have hp' : ∀ z ∈ ys, z.catchType ≠ 0 ∧ ∃ cy, s₀.vm.ClassLinks e.platform f.method.cls z.catchType cy ∧ (∃ k, s₀.vm.classes[cy]? = some k) ∧ s₀.vm.assignable cell.cls cy = false := fun z hz => hp z (List.mem_cons_of_mem _ hz)
    obtain ⟨y0, cy, yl, yc, yn⟩ := hp y List.mem_cons_self
    by_cases hcov : covers y f.pc = true
    · obtain ⟨vm', hW', hq⟩ := ih (S.setVm (S.vm.noted f.method.cls y.catchType (.cls cy))) (warm hW yl) hcell hp'
      refine ⟨vm', hW', fun Q E d acts => ?_⟩
      rw [List.cons_append, xs_row hcov y0 (hW.classLinks yl) hcell hobj (cls hW hk) (cls hW yc), if_neg (by rw [hW.alike.assignable, yn]; decide)]
      exact hq Q E d acts
    · obtain ⟨vm', hW', hq⟩ := ih S hW hcell hp'
      refine ⟨vm', hW', fun Q E d acts => ?_⟩
      rw [List.cons_append, W.findHandler_go_skip (by simpa using hcov)]
      exact hq Q E d acts
/-- what the machine does with the note of a throw whose handler is found so -/
theorem xs_step {e : Env} {s : State} {a : Addr} {f : JFrame} {r : List Frame} {pc : Nat} {vm' : Vm} (hf : ∀ (Q : Handler → Pre) (E : CtlPost) (d : Bool) (acts : List Action), wp (findHandler f a) Q E e d acts s ↔ Q (.found pc) d acts (s.setVm vm')) :
    (stepThrowing e s a (.java f :: r)).Is ((s.setVm vm').setFrames (.java { f with pc := pc, stack := [.ref a] } :: r)) [] := by
  simp only [stepThrowing, searchFrame, vmDo]
  generalize hr : Sem.go _ e false [] s = res
  obtain ⟨as, rfl, ha⟩ := Sem.eq_ok_of hr (a := Handler.found pc) (s' := s.setVm vm') (acts' := []) (by simp [hf])
  exact ⟨rfl, ha⟩
theorem xs_steps {T : State} (X : Stand p l e R s m args below meth c T locs cells slots) (a : Addr) {g : JFrame} (hg : g.method = m) {cell : Cell} (hcell : T.heap[a]? = some cell) (hobj : cell.vm.isStatics = false) (hk : ∃ k, s.vm.classes[cell.cls]? = some k)
    (pre : List ExceptionTableEntry) (x : ExceptionTableEntry) (post : List ExceptionTableEntry) (hsplit : c.exceptionTable.toList = pre ++ x :: post) (hx : covers x g.pc = true) (h0 : x.catchType ≠ 0) {cx : ClassId} (hl : s.vm.ClassLinks e.platform m.cls x.catchType cx) (hc : ∃ k, s.vm.classes[cx]? = some k) (hfit : s.vm.assignable cell.cls cx = true)
    (hp : ∀ y ∈ pre, y.catchType ≠ 0 ∧ ∃ cy, s.vm.ClassLinks e.platform m.cls y.catchType cy ∧ (∃ k, s.vm.classes[cy]? = some k) ∧ s.vm.assignable cell.cls cy = false) :
    ∃ vm', Stand p l e R s m args below meth c (T.setVm vm') locs cells slots ∧ ∀ target, Steps p.tables e below ((T.setVm vm').setTop { g with pc := x.handlerPc, stack := [.ref a] }) target → Steps p.tables e below ((T.setTop g).pushFrame (.throwing a)) target := by
  subst hg
  have hvm : ((T.setTop g).pushFrame (.throwing a)).vm = T.vm := Stand.throwing_vm T g a
  have hhp : ((T.setTop g).pushFrame (.throwing a)).heap = T.heap := Stand.throwing_heap T g a
  obtain ⟨vm', hW', hq⟩ := xs_find (e := e) (f := g) (a := a) (VmData.ne_statics_of hobj) hk x post hx h0 hl hc hfit pre ((T.setTop g).pushFrame (.throwing a)) (by rw [hvm]; exact X.warmed) (by rw [hhp]; exact hcell) hp
  refine ⟨vm', X.noted hW', fun target hrest => ?_⟩
  obtain ⟨hgo, hw⟩ := X.here.throwing (g := g) a
  refine Steps.head hgo hw ?_
  rw [stepThread_throwing (frames_entered X.here.top _), (xs_step (pc := x.handlerPc) (vm' := vm') (fun Q E d acts => by rw [W.findHandler_eq (by rw [hvm]; exact X.method') X.code, hsplit]; exact hq Q E d acts)).1]
  obtain ⟨g₀, hr⟩ := X.frames_eq
  have hr' : (T.setVm vm').frames = .java g₀ :: below := hr
  rw [State.setTop_of_frames _ hr'] at hrest
  have e1 : (((T.setTop g).pushFrame (.throwing a)).setVm vm') = (T.setVm vm').setFrames (.throwing a :: .java g :: below) := by
    rw [State.pushFrame, State.frames_setTop' g X.here.top, X.tail, State.setTop_of_frames _ hr, State.setFrames_setFrames]
    rfl
  rw [e1, State.setFrames_setFrames, X.tail]
  exact hrest
/-- a virtual call whose callee throws, caught by a row of the caller's own -/
theorem xt_catch {own C cls nm : String} {nL n ix mc ms maxL b : Nat} {ret : Option FieldType} {y : MethodName} {bytes : ByteArray} {ws : List Cond} {rm : Room} {Pc : Array Value → State → Prop} {B : State → Prop} {A A1 : Nat → Prop} {As rest : List Value} {pre post : List ExceptionTableEntry} {row : ExceptionTableEntry}
    (S : CallFix p m c cc nL s args smT own) (hM : xt_Met l y ws rm Pc (xt_Q cls B A1) mc ms A1) (cw : CallW R s args own C ix y bytes maxL ret ws rm mc ms n) (hp : PreV s H C b Pc As)
    (hn : As.length = n) (hsize : ls.size = nL) (hsum : (rest.map fun v => v.category).sum ≤ 8) (hdg : decode cc pc = .ok (.invokevirtual ix, 3)) (hf : cells + mc ≤ R.cells ∧ slots + ms ≤ R.slots)
    (hS : va_S A s.heap H locs) (hA : ∀ q, A1 q → A q)
    (hsplit : c.exceptionTable.toList = pre ++ row :: post) (hpass : ∀ y ∈ pre, y.catchType ≠ 0 ∧ ∃ nm', (Cond.classLink own y.catchType nm').before args s = true ∧ xt_no cls nm' s) (hcov : covers row pc = true) (h0 : row.catchType ≠ 0)
    (hlk : (Cond.classLink own row.catchType nm).before args s = true) (hcast : (Cond.castable cls nm).before args s = true)
    (kk : ∀ (x : Nat) (t : State) (H1 : Heap) (locs1 : List Loc), t.heap = H1 → s.vm.Alike t.vm → B t → H.size ≤ H1.size → (∀ q : Nat, q < H.size → ¬ A1 q → H1[q]? = H[q]?) → va_S A s.heap H1 locs1 → W p l e R s m args below meth c H1 locs1 (cells + mc) (slots + ms) Q (F0 m row.handlerPc ls [.ref x])) :
    W p l e R s m args below meth c H locs cells slots Q (F0 m pc ls (As.reverse ++ .ref b :: rest)) := by
  obtain ⟨⟨hrc, hrs, hfr, hlo, hws, hcw, hcode, hini, hy, hlen, hl⟩, hin, hse⟩ := cw
  obtain ⟨hx, hb, hml, ho, -⟩ := S
  obtain ⟨hbl, ⟨cellB, hcB, hoB, hclB⟩, hPc⟩ := hp
  intro T hT X
  obtain ⟨v, vm₁, g', mk, t, T', L, hW₁, X', hL, e1, e2, hq, st⟩ := xt_callV X hx (C := C) (bytes := bytes) (maxL := maxL) (ret := ret) ho hl hin hse hcode hy hM hbl hrc hrs hfr hlo hf.1 hf.2 hws (fun a' U hW => word_at hW (Or.inl (by first | rfl | simp [Cond.onTables, Cond.keeps, Cond.steady])) hini) (by rw [hT]; exact hcB) hoB hclB (g := F0 m pc ls (As.reverse ++ .ref b :: rest)) rfl (hsize.trans hml.symm) (argsL := As) (rest := rest) (fun sig h => hn.trans (hlen sig h)) rfl (lv_room hsum) (by rw [hb]; exact hdg)
    (fun vm₁ hW₁ => hPc (T.setVm vm₁) hT hW₁)
  obtain ⟨⟨ce, hce, hcev, hcec⟩, hB, hz, hkp⟩ := hq
  have hcec' : s.vm.findClass cls = some ce.cls := by rw [← hW₁.alike.findClass]; exact hcec
  obtain ⟨c3, cT, hc3, hcT, hasg⟩ := Cond.castable_spec hcast
  cases hc3.symm.trans hcec'
  have hpl : e.platform.magicAccessors = ({} : Platform).magicAccessors := by rw [X.admits.platform]
  obtain ⟨c', hc', hcl⟩ := Cond.classLink_spec ho hlk e.platform hpl
  cases hcT.symm.trans hc'
  have hz' : H.size ≤ t.heap.size := by have := hz; rw [show ((T.setVm vm₁).calling g' mk (Value.ref b :: As).toArray).heap = H from hT] at this; exact this
  have hkp' : ∀ q : Nat, q < H.size → ¬ A1 q → t.heap[q]? = H[q]? := by
    intro q h1 h2
    have := hkp q (by rw [show ((T.setVm vm₁).calling g' mk (Value.ref b :: As).toArray).heap = H from hT]; exact h1) h2
    rw [show ((T.setVm vm₁).calling g' mk (Value.ref b :: As).toArray).heap = H from hT] at this
    exact this
  obtain ⟨vm', XV, stV⟩ := xs_steps X' v (g := { F0 m pc ls (As.reverse ++ .ref b :: rest) with stack := rest }) rfl (cell := ce) (by rw [e1]; exact hce) hcev (Vm.classAt_of_findClass hcec') pre row post hsplit hcov h0 hcl (Vm.classAt_of_findClass hcT) hasg
    (fun y hy' => by
      obtain ⟨g0, nm', g1, g2⟩ := hpass y hy'
      obtain ⟨c9, hc9, hcl9⟩ := Cond.classLink_spec ho g1 e.platform hpl
      exact ⟨g0, c9, hcl9, Vm.classAt_of_findClass hc9, g2 ce.cls c9 hcec' hc9⟩)
  obtain ⟨tt, a1, b1⟩ := kk v t t.heap (locs ++ L) rfl (by rw [← e2]; exact X'.warmed.alike) hB hz' hkp'
    ⟨Nat.le_trans hS.1 hz', fun q h1 h2 => by rw [hkp' q (Nat.lt_of_lt_of_le h1 hS.1) (fun z => h2 (hA q z))]; exact hS.2.1 q h1 h2, fun q hq => by
      rcases List.mem_append.mp hq with h | h
      · exact hS.2.2 q h
      · exact hA _ (hL q h)⟩ (T'.setVm vm') e1 XV
  exact ⟨tt, st.trans (stV tt a1), b1⟩
end
