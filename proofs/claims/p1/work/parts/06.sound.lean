/-! What the small machine computes, the real one does. -/
/-- a method: name, bytes, locals, what it returns, parameters (without the receiver), static, its class's number, rows -/
abbrev sm_I : Type := MethodName × ByteArray × Nat × Option FieldType × Nat × Bool × Nat × List sm_R
abbrev sm_Iy (f : sm_I) : MethodName := f.1
abbrev sm_Ib (f : sm_I) : ByteArray := f.2.1
abbrev sm_Il (f : sm_I) : Nat := f.2.2.1
abbrev sm_Ir (f : sm_I) : Option FieldType := f.2.2.2.1
abbrev sm_In (f : sm_I) : Nat := f.2.2.2.2.1
abbrev sm_Io (f : sm_I) : Nat := f.2.2.2.2.2.2.1
abbrev sm_Ic (f : sm_I) : List sm_R := f.2.2.2.2.2.2.2
abbrev sm_G : Type := va_G × ClassId × ClassId × (Nat → Nat)
abbrev sm_ad (G : sm_G) : Nat → Nat := G.2.2.2
def sm_cz (ad : Nat → Nat) (v : Value) : Value := match v with
  | .ref 0 => .null
  | .ref (p + 1) => .ref (ad (p + 1))
  | v => v
def sm_fv (ad : Nat → Nat) (D : sm_D) (f : Nat → Int32) (k : Nat) (t : Nat × Nat) : Value := match t with
  | (1, q) => sm_cz ad (.ref q)
  | (2, j) => sm_cz ad (.ref (D.getD j 0))
  | _ => .int (f k)
def sm_ce (G : sm_G) (D : sm_D) (f : Nat → Int32) (h : sm_Sh) : va_E := match h with
  | (0, n, _) => .inl (G.2.1, n, .inl f)
  | (1, n, _) => .inl (G.2.2.1, n, .inl f)
  | (_, c, fs) => .inr (c, fs.mapIdx (fun k t => sm_fv (sm_ad G) D f k t))
def sm_ws (sh : List sm_Sh) (G : sm_G) (D : sm_D) (M : sm_M) : va_W := sh.mapIdx (fun i h => (sm_ad G (i + 1), sm_ce G D (M (i + 1)) h))
abbrev sm_tys (G : sm_G) : List (ClassId × FieldType) := [(G.2.1, .int), (G.2.2.1, .boolean)]
def sm_sta (sa : sm_Sa) (G : sm_G) (A : Nat → Prop) (U : State) (H : Heap) : Prop := ∀ q ∈ sa, va_Z q.2.1.1 q.2.1.2 "[I" (.ref (sm_ad G q.1)) A U H ∧ va_T .int (sm_ad G q.1) q.2.2.length (fun j => .int (sm_tab q.2.2 j)) A U H
def sm_rm (d : Nat) : Room := { frames := d, cells := 0, slots := 0, locals := d * 64 }
def sm_Cx (TT : List Cond) (cls : List vw_C) (sa : sm_Sa) (f : sm_I) (G : sm_G) (A : Nat → Prop) (p : Program) (s : State) (m : MethodId) (args : Array Value) (meth : Method) (c : Code) : Prop :=
  p.tables.exec = Jvm.exec ∧ c.code = sm_Ib f ∧ c.maxLocals = sm_Il f ∧ meth.sig.returnType = sm_Ir f ∧ meth.locks = false ∧ (∀ w ∈ TT, w.before args s = true) ∧ s.vm.findClass (sm_Iy f).cls = some m.cls ∧ va_K G.1 cls (sm_tys G) s ∧ sm_sta sa G A s s.heap ∧ ∀ q, s.heap.size ≤ q → A q
def sm_L (ad : Nat → Nat) (lsr : Array Slot) (nL : Nat) (ls : List Value) : Prop := ls.length = nL ∧ lsr.size = nL ∧ lv_wf lsr ∧ ∀ (i : Nat) (v : Value), ls[i]? = some v → v = .retAddr 0 ∨ (sm_c1 v = true ∧ lsr[i]? = some (.val (sm_cz ad v)))
def sm_rv (ret : Option FieldType) (x : Int32) : Option Value := match ret with
  | none => none
  | some _ => some (.int x)
def sm_Qc (cls : List vw_C) (sh : List sm_Sh) (G : sm_G) (A : Nat → Prop) (ret : Option FieldType) (R : sm_S) : Array Value → State → Outcome → State → Prop := fun _ st oc t =>
  oc = .returned (sm_rv ret R.1) ∧ (va_P G.1 cls (sm_ws sh G R.2.1 R.2.2) t.heap ∧ va_K G.1 cls (sm_tys G) t ∧ va_D A (sm_ws sh G R.2.1 R.2.2)) ∧ va_F A st t
/-- from this place of the method the machine comes to its end with R -/
def sm_WJ (TT : List Cond) (cls : List vw_C) (sa : sm_Sa) (sh : List sm_Sh) (f : sm_I) (d pc : Nat) (ls st : List Value) (D : sm_D) (M : sm_M) (R : sm_S) : Prop :=
  ∀ (p : Program) (l : Launch) (e : Env) (s : State) (m : MethodId) (args : Array Value) (below : List Frame) (meth : Method) (c : Code) (G : sm_G) (A : Nat → Prop), sm_Cx TT cls sa f G A p s m args meth c →
  ∀ (H : Heap) (locs : List Loc) (lsr : Array Slot), va_P G.1 cls (sm_ws sh G D M) H → va_D A (sm_ws sh G D M) → va_S A s.heap H locs → sm_L (sm_ad G) lsr (sm_Il f) ls →
  W p l e (sm_rm d) s m args below meth c H locs 0 0 (MQ below (sm_Qc cls sh G A (sm_Ir f) R) args s 0 0 A) (F0 m pc lsr (st.map (sm_cz (sm_ad G))))
def sm_Pc (cls : List vw_C) (sa : sm_Sa) (sh : List sm_Sh) (G : sm_G) (sz : Nat) (as : List Value) (D : sm_D) (M : sm_M) : Array Value → State → Prop := va_Pc (as.map (sm_cz (sm_ad G))) (fun U => U.heap.size = sz ∧ va_P G.1 cls (sm_ws sh G D M) U.heap ∧ va_K G.1 cls (sm_tys G) U ∧ va_D (fun _ => True) (sm_ws sh G D M) ∧ sm_sta sa G (va_A (sm_ws sh G D M) sz) U U.heap)
abbrev sm_wd (TT : List Cond) (f : sm_I) : List Cond := Cond.code (sm_Iy f) (sm_Ib f) (sm_Il f) (sm_Ir f) :: TT
/-- the method's contract at these arguments and this memory -/
def sm_MJ (TT : List Cond) (cls : List vw_C) (sa : sm_Sa) (sh : List sm_Sh) (f : sm_I) (d : Nat) (as : List Value) (D : sm_D) (M : sm_M) (R : sm_S) : Prop :=
  ∀ (l : Launch) (G : sm_G) (sz : Nat), Met l (sm_Iy f) (sm_wd TT f) (sm_rm d) (sm_Pc cls sa sh G sz as D M) (sm_Qc cls sh G (va_A (sm_ws sh G D M) sz) (sm_Ir f) R) 0 0 (va_A (sm_ws sh G D M) sz)
/-! rows that are as the bytes have them -/
def sm_tg (code : List sm_R) (pc : Nat) (off : Int) (t : Nat) : Bool := match code[t]? with
  | some q => decide ((pc : Int) + off = (sm_pc q : Int))
  | none => false
def sm_okts (code : List sm_R) (pc : Nat) : Int → List Int → List (Int32 × Nat) → Bool
  | _, [], [] => true
  | lo, off :: offs, (c, t) :: ts => decide (c.toInt = lo) && sm_tg code pc off t && sm_okts code pc (lo + 1) offs ts
  | _, _, _ => false
def sm_oklk (code : List sm_R) (pc : Nat) : List (Int × Int) → List (Int32 × Nat) → Bool
  | [], [] => true
  | (k, off) :: ps, (c, t) :: ts => decide (c.toInt = k) && sm_tg code pc off t && sm_oklk code pc ps ts
  | _, _ => false
abbrev sm_L4 : Type := List (Nat × Nat × Nat × Nat)
abbrev sm_L3 : Type := List (Nat × Nat × Nat)
def sm_okr (P : List sm_I) (LF LP : sm_L4) (LM LN LS : sm_L3) (f : sm_I) (r : sm_R) : Bool := decide (decode (sm_Ib f) (sm_pc r) = .ok (sm_in r, sm_ln r)) && match sm_in r with
  | .iconst n => decide (sm_ln r = 1 ∧ Int32.ofInt n = sm_v r)
  | .bipush n => decide (sm_ln r = 2 ∧ (Int8.ofInt n).toInt32 = sm_v r)
  | .sipush n => decide (sm_ln r = 3 ∧ (Int16.ofInt n).toInt32 = sm_v r)
  | .iload_n k => decide (sm_ln r = 1 ∧ k.val = sm_x r)
  | .iload k => decide (sm_ln r = 2 ∧ k = sm_x r)
  | .aload_n k => decide (sm_ln r = 1 ∧ k.val = sm_x r)
  | .aload k => decide (sm_ln r = 2 ∧ k = sm_x r)
  | .istore_n k => decide (sm_ln r = 1 ∧ k.val = sm_x r ∧ sm_x r < sm_Il f)
  | .istore k => decide (sm_ln r = 2 ∧ k = sm_x r ∧ sm_x r < sm_Il f)
  | .astore_n k => decide (sm_ln r = 1 ∧ k.val = sm_x r ∧ sm_x r < sm_Il f)
  | .astore k => decide (sm_ln r = 2 ∧ k = sm_x r ∧ sm_x r < sm_Il f)
  | .iinc k n => decide (sm_ln r = 3 ∧ k = sm_x r ∧ Int32.ofInt n = sm_v r ∧ sm_x r < sm_Il f)
  | .iadd | .isub | .imul | .iand | .ixor | .iushr | .irem | .dup | .pop | .dup_x1 | .dup_x2 | .dup2 | .iaload | .baload | .iastore | .bastore | .arraylength => decide (sm_ln r = 1)
  | .ireturn => decide (sm_ln r = 1 ∧ (sm_Ir f).isSome = true)
  | .return_ => decide (sm_ln r = 1 ∧ (sm_Ir f).isSome = false)
  | .ifCond _ off => decide (sm_ln r = 3) && sm_tg (sm_Ic f) (sm_pc r) off (sm_x r)
  | .if_icmp _ off => decide (sm_ln r = 3) && sm_tg (sm_Ic f) (sm_pc r) off (sm_x r)
  | .goto off => decide (sm_ln r = 3) && sm_tg (sm_Ic f) (sm_pc r) off (sm_x r)
  | .tableswitch dflt lo hi offs => decide (hi + 1 = lo + (offs.size : Int)) && sm_tg (sm_Ic f) (sm_pc r) dflt (sm_x r) && sm_okts (sm_Ic f) (sm_pc r) lo offs.toList (sm_ts r)
  | .lookupswitch dflt ps => (ps.toList.zip (ps.toList.drop 1)).all (fun (a, next) => a.1 < next.1) && sm_tg (sm_Ic f) (sm_pc r) dflt (sm_x r) && sm_oklk (sm_Ic f) (sm_pc r) ps.toList (sm_ts r)
  | .getfield i => decide (sm_ln r = 3 ∧ (sm_Io f, i, sm_x r, sm_y r) ∈ LF)
  | .putfield i => decide (sm_ln r = 3 ∧ (sm_Io f, i, sm_x r, sm_y r) ∈ LP)
  | .getstatic i => decide (sm_ln r = 3 ∧ (sm_Io f, i, sm_x r) ∈ LS)
  | .invokevirtual i => decide (sm_ln r = 3 ∧ (sm_Io f, i, sm_x r) ∈ LM) && (match P[sm_x r]? with
    | some g => decide (sm_z r = sm_In g + 1 ∧ sm_y r = sm_Io g ∧ ((sm_ts r).isEmpty = (sm_Ir g).isNone))
    | none => false)
  | .invokestatic i => decide (sm_ln r = 3 ∧ (sm_Io f, i, sm_x r) ∈ LN) && (match P[sm_x r]? with
    | some g => decide (sm_z r = sm_In g ∧ ((sm_ts r).isEmpty = (sm_Ir g).isNone))
    | none => false)
  | _ => false
def sm_seq : List sm_R → Bool
  | r :: q :: t => decide (sm_pc q = sm_pc r + sm_ln r) && sm_seq (q :: t)
  | _ => true
def sm_okm (P : List sm_I) (LF LP : sm_L4) (LM LN LS : sm_L3) (f : sm_I) : Bool := sm_seq (sm_Ic f) && (sm_Ic f).all (sm_okr P LF LP LM LN LS f)
/-- the tables are good -/
def sm_V (TT : List Cond) (cls : List vw_C) (P : List sm_I) (nm : Nat → String) (LF LP : sm_L4) (LM LN LS : sm_L3) (sa : sm_Sa) (sh : List sm_Sh) : Prop :=
  (∀ w ∈ TT, goodWord w = true) ∧
  (∀ (ci : Nat) (C : String) (T : u_T) (N : Nat), cls[ci]? = some (C, T, N) → (∀ w ∈ u_ws C T N, w ∈ TT) ∧ (∃ ty : Nat → FieldType, ∀ k, k < N → parseFieldDescriptor (T k).2.2.1 = some (ty k)) ∧ ∀ a, a < N → ∀ b, b < N → a ≠ b → (T a).2.1 ≠ (T b).2.1) ∧
  (∀ o i ci k : Nat, (o, i, ci, k) ∈ LF → ∃ (C : String) (T : u_T) (N : Nat), cls[ci]? = some (C, T, N) ∧ k < N ∧ Cond.fieldLink (nm o) i C (T k).2.1 (T k).2.2.1 ∈ TT ∧ (T k).1 = C) ∧
  (∀ o i ci k : Nat, (o, i, ci, k) ∈ LP → (o, i, ci, k) ∈ LF ∧ ∀ (C : String) (T : u_T) (N : Nat), cls[ci]? = some (C, T, N) → (T k).2.2.2 = false) ∧
  (∀ o i x : Nat, (o, i, x) ∈ LM → ∃ g : sm_I, P[x]? = some g ∧ Cond.methodLink (nm o) i (sm_Iy g) ∈ TT ∧ Cond.instanceMethod (sm_Iy g) ∈ TT ∧ Cond.selects (sm_Iy g).cls (sm_Iy g) (sm_Iy g) ∈ TT ∧ (∃ (T : u_T) (N : Nat), cls[sm_Io g]? = some ((sm_Iy g).cls, T, N))) ∧
  (∀ o i x : Nat, (o, i, x) ∈ LN → ∃ g : sm_I, P[x]? = some g ∧ Cond.methodLink (nm o) i (sm_Iy g) ∈ TT ∧ Cond.static (sm_Iy g) ∈ TT) ∧
  (∀ (x : Nat) (g : sm_I), P[x]? = some g → Cond.code (sm_Iy g) (sm_Ib g) (sm_Il g) (sm_Ir g) ∈ TT ∧ Cond.initialized (sm_Iy g).cls ∈ TT ∧ nm (sm_Io g) = (sm_Iy g).cls ∧ ((sm_Iy g).cls ≠ "java/lang/invoke/MethodHandle" ∧ (sm_Iy g).cls ≠ "java/lang/invoke/VarHandle" ∧ (parseMethodDescriptor (sm_Iy g).desc).map (fun d => d.parameters.length) = some (sm_In g)) ∧ sm_Il g + 19 ≤ 64 ∧ (sm_Ir g = none ∨ sm_Ir g = some .int ∨ sm_Ir g = some .boolean) ∧ sm_okm P LF LP LM LN LS g = true) ∧
  (∀ o i x : Nat, (o, i, x) ∈ LS → ∃ q ∈ sa, q.1 = x ∧ 0 < x ∧ Cond.fieldLink (nm o) i q.2.1.1 q.2.1.2 "[I" ∈ TT) ∧
  (∀ (i c : Nat) (fs : List (Nat × Nat)), sh[i]? = some (2, c, fs) → ∃ (C : String) (T : u_T) (N : Nat), cls[c]? = some (C, T, N) ∧ fs.length = N ∧ ∀ (k a b : Nat), fs[k]? = some (a, b) → (a = 0 → (T k).2.2.1 = "I") ∧ (a = 3 → (T k).2.2.1 = "Z") ∧ (a = 2 → (∃ C' : String, parseFieldDescriptor (T k).2.2.1 = some (.object C')) ∧ ∀ (i' c' : Nat) (fs' : List (Nat × Nat)) (k' : Nat), sh[i']? = some (2, c', fs') → fs'[k']? = some (2, b) → i' = i ∧ k' = k)) ∧
  (∀ (i : Nat) (h : sm_Sh), sh[i]? = some h → h.1 = 0 ∨ h.1 = 1 ∨ h.1 = 2) ∧ ∀ q ∈ sa, 0 < q.1
/-- Math.max, which the real machine does by itself -/
def sm_mx (d : Nat) (g : sm_I) (as : List Value) (D : sm_D) (M : sm_M) (R : sm_S) : Prop := 1 ≤ d ∧ sm_Iy g = Lib.Math.max.name ∧ sm_Ib g = Lib.Math.max.code ∧ sm_Il g = 2 ∧ sm_Ir g = some .int ∧ ∃ a b : Int32, as = [.int a, .int b] ∧ R = (if a < b then b else a, D, M)
