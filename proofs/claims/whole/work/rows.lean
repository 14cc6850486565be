section
/-! A small machine for methods over ints, booleans, int arrays and fixed cells; what it computes, the real machine does (part 03).
A reference is a PLACE: 0 is null, i + 1 is cell i of the shape 'sh'; from 1000 on the static tables. -/
abbrev sm_M : Type := Nat → Nat → Int32
abbrev sm_D : Type := List Nat
abbrev sm_S : Type := Int32 × sm_D × sm_M
/-- a cell: (0, n, _) an int array of n places; (1, n, _) a boolean array; (2, c, fields) an object of class number c. A field: (0, _) an int, (1, p) always the cell p, (2, j) the cell that D names at j, (3, _) a boolean -/
abbrev sm_Sh : Type := Nat × Nat × List (Nat × Nat)
/-- a row of code: pc, instruction, length, begins a block of its own, v, x, y, z, w, switch -/
abbrev sm_R : Type := Nat × Instr × Nat × Bool × Int32 × Nat × Nat × Nat × Nat × List (Int32 × Nat)
abbrev sm_pc (r : sm_R) : Nat := r.1
abbrev sm_in (r : sm_R) : Instr := r.2.1
abbrev sm_ln (r : sm_R) : Nat := r.2.2.1
abbrev sm_fl (r : sm_R) : Bool := r.2.2.2.1
abbrev sm_v (r : sm_R) : Int32 := r.2.2.2.2.1
abbrev sm_x (r : sm_R) : Nat := r.2.2.2.2.2.1
abbrev sm_y (r : sm_R) : Nat := r.2.2.2.2.2.2.1
abbrev sm_z (r : sm_R) : Nat := r.2.2.2.2.2.2.2.1
abbrev sm_w (r : sm_R) : Nat := r.2.2.2.2.2.2.2.2.1
abbrev sm_ts (r : sm_R) : List (Int32 × Nat) := r.2.2.2.2.2.2.2.2.2
def sm_up (M : sm_M) (p j : Nat) (v : Int32) : sm_M := fun q => if q = p then upd (M p) j v else M q
def sm_at (sh : List sm_Sh) (p : Nat) : Option sm_Sh := match p with
  | 0 => none
  | i + 1 => sh[i]?
def sm_ck {ρ : Type} (i : Int32) (n : Nat) (k : Option ρ) : Option ρ := if 0 ≤ i.toInt ∧ i.toInt < (n : Int) then k else none
def sm_bo {ρ : Type} (v : Int32) (k : Option ρ) : Option ρ := if v = 0 ∨ v = 1 then k else none
def sm_nz {ρ : Type} (v : Int32) (k : Option ρ) : Option ρ := if v = 0 then none else k
def sm_bi {ρ : Type} (c : Option sm_S) (k : Int32 → sm_D → sm_M → Option ρ) : Option ρ := match c with
  | some (x, D, M) => k x D M
  | none => none
def sm_sw {ρ : Type} (v : Int32) (d : Nat) (k : Nat → Option ρ) : List (Int32 × Nat) → Option ρ
  | [] => k d
  | (c, t) :: r => if v = c then k t else sm_sw v d k r
def sm_cn {ρ : Type} (c : ClassFile.Cond) (a b : Int32) (t f : Option ρ) : Option ρ := match c with
  | .eq => if a = b then t else f
  | .ne => if a = b then f else t
  | .lt => if a < b then t else f
  | .ge => if a < b then f else t
  | .gt => if b < a then t else f
  | .le => if b < a then f else t
def sm_p1 {ρ : Type} (st : List Value) (k : Int32 → List Value → Option ρ) : Option ρ := match st with
  | .int x :: st => k x st
  | _ => none
def sm_p2 {ρ : Type} (st : List Value) (k : Int32 → Int32 → List Value → Option ρ) : Option ρ := match st with
  | .int y :: .int x :: st => k x y st
  | _ => none
def sm_c1 (v : Value) : Bool := match v with
  | .int _ => true
  | .ref _ => true
  | _ => false
def sm_pr {ρ : Type} (st : List Value) (k : Nat → List Value → Option ρ) : Option ρ := match st with
  | .ref (p + 1) :: st => k p st
  | _ => none
def sm_v1 {ρ : Type} (st : List Value) (k : Value → List Value → Option ρ) : Option ρ := match st with
  | v :: st => match sm_c1 v with
    | true => k v st
    | false => none
  | _ => none
/-- the end of a method -/
def sm_re {ρ : Type} (st : List Value) (zr : Bool) (a : Int32) (k : Option ρ) : Option ρ := match st, zr with
  | [], true => sm_bo a k
  | [], false => k
  | _, _ => none
def sm_tab (vs : List Nat) (i : Nat) : Int32 := nI (vs.getD i 0)
abbrev sm_Sa : Type := List (Nat × (String × String) × List Nat)
def sm_sa : sm_Sa → Nat → Option (List Nat)
  | [], _ => none
  | q :: r, p => if q.1 = p then some q.2.2 else sm_sa r p
/-- a value is read from a local -/
def sm_lo {ρ : Type} (ls : List Value) (i : Nat) (k : Value → Option ρ) : Option ρ := match ls[i]? with
  | some (.int x) => k (.int x)
  | some (.ref (p + 1)) => k (.ref (p + 1))
  | _ => none
def sm_ald {ρ : Type} (sh : List sm_Sh) (sa : sm_Sa) (st : List Value) (M : sm_M) (k : Int32 → List Value → Option ρ) : Option ρ := match st with
  | .int i :: .ref p :: st => match sm_at sh p with
    | some (0, n, _) => sm_ck i n (k (M p i.toNatClampNeg) st)
    | some _ => none
    | none => match sm_sa sa p with
      | some vs => sm_ck i vs.length (k (sm_tab vs i.toNatClampNeg) st)
      | none => none
  | _ => none
def sm_zld {ρ : Type} (sh : List sm_Sh) (st : List Value) (M : sm_M) (k : Int32 → List Value → Option ρ) : Option ρ := match st with
  | .int i :: .ref p :: st => match sm_at sh p with
    | some (1, n, _) => sm_ck i n (k (M p i.toNatClampNeg) st)
    | _ => none
  | _ => none
def sm_ast {ρ : Type} (sh : List sm_Sh) (st : List Value) (M : sm_M) (k : List Value → sm_M → Option ρ) : Option ρ := match st with
  | .int x :: .int i :: .ref p :: st => match sm_at sh p with
    | some (0, n, _) => sm_ck i n (k st (sm_up M p i.toNatClampNeg x))
    | _ => none
  | _ => none
def sm_zst {ρ : Type} (sh : List sm_Sh) (st : List Value) (M : sm_M) (k : List Value → sm_M → Option ρ) : Option ρ := match st with
  | .int x :: .int i :: .ref p :: st => match sm_at sh p with
    | some (1, n, _) => sm_ck i n (sm_bo x (k st (sm_up M p i.toNatClampNeg x)))
    | _ => none
  | _ => none
def sm_aln {ρ : Type} (sh : List sm_Sh) (st : List Value) (k : Int32 → List Value → Option ρ) : Option ρ := match st with
  | .ref p :: st => match sm_at sh p with
    | some (0, n, _) => k (nI n) st
    | _ => none
  | _ => none
def sm_get {ρ : Type} (sh : List sm_Sh) (ci fk : Nat) (st : List Value) (D : sm_D) (M : sm_M) (k : Value → List Value → Option ρ) : Option ρ := match st with
  | .ref p :: st => match sm_at sh p with
    | some (2, c, fs) => match Nat.beq c ci with
      | true => match fs[fk]? with
        | some (0, _) => k (.int (M p fk)) st
        | some (3, _) => k (.int (M p fk)) st
        | some (1, q) => k (.ref q) st
        | some (2, j) => match D[j]? with
          | some q => k (.ref q) st
          | none => none
        | _ => none
      | false => none
    | _ => none
  | _ => none
def sm_put {ρ : Type} (sh : List sm_Sh) (ci fk : Nat) (st : List Value) (D : sm_D) (M : sm_M) (k : List Value → sm_D → sm_M → Option ρ) : Option ρ := match st with
  | .int v :: .ref p :: st => match sm_at sh p with
    | some (2, c, fs) => match Nat.beq c ci with
      | true => match fs[fk]? with
        | some (0, _) => k st D (sm_up M p fk v)
        | some (3, _) => sm_bo v (k st D (sm_up M p fk v))
        | _ => none
      | false => none
    | _ => none
  | .ref q :: .ref p :: st => match sm_at sh p with
    | some (2, c, fs) => match Nat.beq c ci with
      | true => match fs[fk]? with
        | some (2, j) => match D[j]? with
          | some _ => k st (D.set j q) M
          | none => none
        | _ => none
      | false => none
    | _ => none
  | _ => none
/-- the receiver is an object of class number ci -/
def sm_rcv (sh : List sm_Sh) (ci : Nat) (as : List Value) : Bool := match as with
  | .ref p :: _ => match sm_at sh p with
    | some (2, c, _) => Nat.beq c ci
    | _ => false
  | _ => false
abbrev sm_Cal : Type := Nat → List Value → sm_D → sm_M → Option sm_S
/-- what a call does to D: nothing (0), or its place j becomes the argument number a (10 j + a + 1) -/
def sm_ef (w : Nat) (as : List Value) (D : sm_D) : sm_D := match w with
  | 0 => D
  | w + 1 => match as[w % 10]? with
    | some (.ref q) => D.set (w / 10) q
    | _ => D
def sm_dq {ρ : Type} (D E : sm_D) (k : Option ρ) : Option ρ := if D = E then k else none
def sm_inv {ρ : Type} (ok : List Value → Bool) (cal : sm_Cal) (x z w : Nat) (st : List Value) (D : sm_D) (M : sm_M) (k : Int32 → List Value → sm_D → sm_M → Option ρ) : Option ρ :=
  match Nat.ble (st.drop z).length 8, ok (st.take z).reverse, Nat.ble z st.length, (st.drop z).all sm_c1 with
  | true, true, true, true => sm_bi (cal x (st.take z).reverse D M) (fun r D' M => sm_dq D' (sm_ef w (st.take z).reverse D) (k r (st.drop z) (sm_ef w (st.take z).reverse D) M))
  | _, _, _, _ => none
abbrev sm_K (ρ : Type) : Type := List sm_R → List Value → List Value → sm_D → sm_M → Option ρ
/-- one instruction -/
def sm_st {ρ : Type} (sh : List sm_Sh) (sa : sm_Sa) (cal : sm_Cal) (code : List sm_R) (zr : Bool) (ret : Int32 → sm_D → sm_M → Option ρ) (nx : sm_K ρ) : sm_K ρ := fun rows ls st D M => match rows with
  | [] => none
  | r :: rest => match sm_in r with
    | .iconst _ => nx rest ls (.int (sm_v r) :: st) D M
    | .bipush _ => nx rest ls (.int (sm_v r) :: st) D M
    | .sipush _ => nx rest ls (.int (sm_v r) :: st) D M
    | .iload_n _ => sm_lo ls (sm_x r) (fun v => match v with
      | .int _ => nx rest ls (v :: st) D M
      | _ => none)
    | .iload _ => sm_lo ls (sm_x r) (fun v => match v with
      | .int _ => nx rest ls (v :: st) D M
      | _ => none)
    | .aload_n _ => sm_lo ls (sm_x r) (fun v => match v with
      | .ref _ => nx rest ls (v :: st) D M
      | _ => none)
    | .aload _ => sm_lo ls (sm_x r) (fun v => match v with
      | .ref _ => nx rest ls (v :: st) D M
      | _ => none)
    | .istore_n _ => sm_p1 st (fun a st => nx rest (ls.set (sm_x r) (.int a)) st D M)
    | .istore _ => sm_p1 st (fun a st => nx rest (ls.set (sm_x r) (.int a)) st D M)
    | .astore_n _ => sm_pr st (fun p st => nx rest (ls.set (sm_x r) (.ref (p + 1))) st D M)
    | .astore _ => sm_pr st (fun p st => nx rest (ls.set (sm_x r) (.ref (p + 1))) st D M)
    | .iinc _ _ => sm_lo ls (sm_x r) (fun v => match v with
      | .int a => nx rest (ls.set (sm_x r) (.int (a + sm_v r))) st D M
      | _ => none)
    | .iadd => sm_p2 st (fun a b st => nx rest ls (.int (a + b) :: st) D M)
    | .isub => sm_p2 st (fun a b st => nx rest ls (.int (a - b) :: st) D M)
    | .imul => sm_p2 st (fun a b st => nx rest ls (.int (a * b) :: st) D M)
    | .iand => sm_p2 st (fun a b st => nx rest ls (.int (a &&& b) :: st) D M)
    | .ixor => sm_p2 st (fun a b st => nx rest ls (.int (a ^^^ b) :: st) D M)
    | .iushr => sm_p2 st (fun a b st => nx rest ls (.int ((a.toUInt32 >>> (b.toUInt32 &&& Int32.toUInt32 31)).toInt32) :: st) D M)
    | .irem => sm_p2 st (fun a b st => sm_nz b (nx rest ls (.int (a - a / b * b) :: st) D M))
    | .dup => sm_v1 st (fun v st => nx rest ls (v :: v :: st) D M)
    | .pop => sm_v1 st (fun _ st => nx rest ls st D M)
    | .dup_x1 => sm_v1 st (fun v st => sm_v1 st (fun w st => nx rest ls (v :: w :: v :: st) D M))
    | .dup_x2 => sm_v1 st (fun v st => sm_v1 st (fun w st => sm_v1 st (fun u st => nx rest ls (v :: w :: u :: v :: st) D M)))
    | .dup2 => sm_v1 st (fun v st => sm_v1 st (fun w st => nx rest ls (v :: w :: v :: w :: st) D M))
    | .ifCond c _ => sm_p1 st (fun a st => sm_cn c a 0 (nx (code.drop (sm_x r)) ls st D M) (nx rest ls st D M))
    | .if_icmp c _ => sm_p2 st (fun a b st => sm_cn c a b (nx (code.drop (sm_x r)) ls st D M) (nx rest ls st D M))
    | .goto _ => nx (code.drop (sm_x r)) ls st D M
    | .tableswitch _ _ _ _ => sm_p1 st (fun a st => sm_sw a (sm_x r) (fun t => nx (code.drop t) ls st D M) (sm_ts r))
    | .lookupswitch _ _ => sm_p1 st (fun a st => sm_sw a (sm_x r) (fun t => nx (code.drop t) ls st D M) (sm_ts r))
    | .getfield _ => sm_get sh (sm_x r) (sm_y r) st D M (fun v st => nx rest ls (v :: st) D M)
    | .putfield _ => sm_put sh (sm_x r) (sm_y r) st D M (fun st D M => nx rest ls st D M)
    | .getstatic _ => nx rest ls (.ref (sm_x r) :: st) D M
    | .iaload => sm_ald sh sa st M (fun v st => nx rest ls (.int v :: st) D M)
    | .baload => sm_zld sh st M (fun v st => nx rest ls (.int v :: st) D M)
    | .iastore => sm_ast sh st M (fun st M => nx rest ls st D M)
    | .bastore => sm_zst sh st M (fun st M => nx rest ls st D M)
    | .arraylength => sm_aln sh st (fun v st => nx rest ls (.int v :: st) D M)
    | .invokevirtual _ => sm_inv (sm_rcv sh (sm_y r)) cal (sm_x r) (sm_z r) (sm_w r) st D M (fun a st D M => match sm_ts r with
      | [] => nx rest ls st D M
      | _ :: _ => nx rest ls (.int a :: st) D M)
    | .invokestatic _ => sm_inv (fun _ => true) cal (sm_x r) (sm_z r) (sm_w r) st D M (fun a st D M => match sm_ts r with
      | [] => nx rest ls st D M
      | _ :: _ => nx rest ls (.int a :: st) D M)
    | .ireturn => sm_p1 st (fun a st => sm_re st zr a (ret a D M))
    | .return_ => sm_re st false 0 (ret 0 D M)
    | _ => none
def sm_nx {ρ : Type} (leaf : Nat → List Value → List Value → sm_D → sm_M → Option ρ) (go : sm_K ρ) : sm_K ρ := fun rows ls st D M => match rows with
  | [] => none
  | r :: rest => match sm_fl r with
    | true => leaf (sm_pc r) ls st D M
    | false => go (r :: rest) ls st D M
def sm_run {ρ : Type} (sh : List sm_Sh) (sa : sm_Sa) (cal : sm_Cal) (code : List sm_R) (zr : Bool) (ret : Int32 → sm_D → sm_M → Option ρ) (leaf : Nat → List Value → List Value → sm_D → sm_M → Option ρ) : Nat → sm_K ρ
  | 0 => fun _ _ _ _ _ => none
  | n + 1 => sm_st sh sa cal code zr ret (sm_nx leaf (sm_run sh sa cal code zr ret leaf n))
/-- loops -/
def sm_it {σ ρ : Type} (b : σ → Option (σ ⊕ ρ)) : Nat → σ → Option ρ
  | 0, _ => none
  | n + 1, s => match b s with
    | some (.inl s') => sm_it b n s'
    | some (.inr r) => some r
    | none => none
end
section
/-! What the small machine computes, the real one does. -/
/-- a method: name, bytes, locals, what it returns, parameters (without the receiver), static, its class's number, rows -/
abbrev sm_I : Type := MethodName × ByteArray × Nat × Option FieldType × Nat × Bool × Nat × List sm_R
abbrev sm_Iy (f : sm_I) : MethodName := f.1
abbrev sm_Ib (f : sm_I) : ByteArray := f.2.1
abbrev sm_Il (f : sm_I) : Nat := f.2.2.1
abbrev sm_Ir (f : sm_I) : Option FieldType := f.2.2.2.1
abbrev sm_In (f : sm_I) : Nat := f.2.2.2.2.1
abbrev sm_Io (f : sm_I) : Nat := f.2.2.2.2.2.2.1
abbrev sm_Ic (f : sm_I) : List sm_R := f.2.2.2.2.2.2.2
abbrev sm_G : Type := va_G × ClassId × ClassId × (Nat → Nat)
abbrev sm_ad (G : sm_G) : Nat → Nat := G.2.2.2
def sm_cz (ad : Nat → Nat) (v : Value) : Value := match v with
  | .ref 0 => .null
  | .ref (p + 1) => .ref (ad (p + 1))
  | v => v
def sm_fv (ad : Nat → Nat) (D : sm_D) (f : Nat → Int32) (k : Nat) (t : Nat × Nat) : Value := match t with
  | (1, q) => sm_cz ad (.ref q)
  | (2, j) => sm_cz ad (.ref (D.getD j 0))
  | _ => .int (f k)
def sm_ce (G : sm_G) (D : sm_D) (f : Nat → Int32) (h : sm_Sh) : va_E := match h with
  | (0, n, _) => .inl (G.2.1, n, .inl f)
  | (1, n, _) => .inl (G.2.2.1, n, .inl f)
  | (_, c, fs) => .inr (c, fs.mapIdx (fun k t => sm_fv (sm_ad G) D f k t))
def sm_ws (sh : List sm_Sh) (G : sm_G) (D : sm_D) (M : sm_M) : va_W := sh.mapIdx (fun i h => (sm_ad G (i + 1), sm_ce G D (M (i + 1)) h))
abbrev sm_tys (G : sm_G) : List (ClassId × FieldType) := [(G.2.1, .int), (G.2.2.1, .boolean)]
def sm_sta (sa : sm_Sa) (G : sm_G) (A : Nat → Prop) (U : State) (H : Heap) : Prop := ∀ q ∈ sa, va_Z q.2.1.1 q.2.1.2 "[I" (.ref (sm_ad G q.1)) A U H ∧ va_T .int (sm_ad G q.1) q.2.2.length (fun j => .int (sm_tab q.2.2 j)) A U H
def sm_rm (d : Nat) : Room := { frames := d, cells := 0, slots := 0, locals := d * 64 }
def sm_Cx (TT : List Cond) (cls : List vw_C) (sa : sm_Sa) (f : sm_I) (G : sm_G) (A : Nat → Prop) (p : Program) (s : State) (m : MethodId) (args : Array Value) (meth : Method) (c : Code) : Prop :=
  p.tables.exec = Jvm.exec ∧ c.code = sm_Ib f ∧ c.maxLocals = sm_Il f ∧ meth.sig.returnType = sm_Ir f ∧ meth.locks = false ∧ (∀ w ∈ TT, w.before args s = true) ∧ s.vm.findClass (sm_Iy f).cls = some m.cls ∧ va_K G.1 cls (sm_tys G) s ∧ sm_sta sa G A s s.heap ∧ ∀ q, s.heap.size ≤ q → A q
def sm_L (ad : Nat → Nat) (lsr : Array Slot) (nL : Nat) (ls : List Value) : Prop := ls.length = nL ∧ lsr.size = nL ∧ lv_wf lsr ∧ ∀ (i : Nat) (v : Value), ls[i]? = some v → v = .retAddr 0 ∨ (sm_c1 v = true ∧ lsr[i]? = some (.val (sm_cz ad v)))
def sm_rv (ret : Option FieldType) (x : Int32) : Option Value := match ret with
  | none => none
  | some _ => some (.int x)
def sm_Qc (cls : List vw_C) (sh : List sm_Sh) (G : sm_G) (A : Nat → Prop) (ret : Option FieldType) (R : sm_S) : Array Value → State → Outcome → State → Prop := fun _ st oc t =>
  oc = .returned (sm_rv ret R.1) ∧ (va_P G.1 cls (sm_ws sh G R.2.1 R.2.2) t.heap ∧ va_K G.1 cls (sm_tys G) t ∧ va_D A (sm_ws sh G R.2.1 R.2.2)) ∧ va_F A st t
/-- from this place of the method the machine comes to its end with R -/
def sm_WJ (TT : List Cond) (cls : List vw_C) (sa : sm_Sa) (sh : List sm_Sh) (f : sm_I) (d pc : Nat) (ls st : List Value) (D : sm_D) (M : sm_M) (R : sm_S) : Prop :=
  ∀ (p : Program) (l : Launch) (e : Env) (s : State) (m : MethodId) (args : Array Value) (below : List Frame) (meth : Method) (c : Code) (G : sm_G) (A : Nat → Prop), sm_Cx TT cls sa f G A p s m args meth c →
  ∀ (H : Heap) (locs : List Loc) (lsr : Array Slot), va_P G.1 cls (sm_ws sh G D M) H → va_D A (sm_ws sh G D M) → va_S A s.heap H locs → sm_L (sm_ad G) lsr (sm_Il f) ls →
  W p l e (sm_rm d) s m args below meth c H locs 0 0 (MQ below (sm_Qc cls sh G A (sm_Ir f) R) args s 0 0 A) (F0 m pc lsr (st.map (sm_cz (sm_ad G))))
def sm_Pc (cls : List vw_C) (sa : sm_Sa) (sh : List sm_Sh) (G : sm_G) (sz : Nat) (as : List Value) (D : sm_D) (M : sm_M) : Array Value → State → Prop := va_Pc (as.map (sm_cz (sm_ad G))) (fun U => U.heap.size = sz ∧ va_P G.1 cls (sm_ws sh G D M) U.heap ∧ va_K G.1 cls (sm_tys G) U ∧ va_D (fun _ => True) (sm_ws sh G D M) ∧ sm_sta sa G (va_A (sm_ws sh G D M) sz) U U.heap)
abbrev sm_wd (TT : List Cond) (f : sm_I) : List Cond := Cond.code (sm_Iy f) (sm_Ib f) (sm_Il f) (sm_Ir f) :: TT
/-- the method's contract at these arguments and this memory -/
def sm_MJ (TT : List Cond) (cls : List vw_C) (sa : sm_Sa) (sh : List sm_Sh) (f : sm_I) (d : Nat) (as : List Value) (D : sm_D) (M : sm_M) (R : sm_S) : Prop :=
  ∀ (l : Launch) (G : sm_G) (sz : Nat), Met l (sm_Iy f) (sm_wd TT f) (sm_rm d) (sm_Pc cls sa sh G sz as D M) (sm_Qc cls sh G (va_A (sm_ws sh G D M) sz) (sm_Ir f) R) 0 0 (va_A (sm_ws sh G D M) sz)
/-! rows that are as the bytes have them -/
def sm_tg (code : List sm_R) (pc : Nat) (off : Int) (t : Nat) : Bool := match code[t]? with
  | some q => decide ((pc : Int) + off = (sm_pc q : Int))
  | none => false
def sm_okts (code : List sm_R) (pc : Nat) : Int → List Int → List (Int32 × Nat) → Bool
  | _, [], [] => true
  | lo, off :: offs, (c, t) :: ts => decide (c.toInt = lo) && sm_tg code pc off t && sm_okts code pc (lo + 1) offs ts
  | _, _, _ => false
def sm_oklk (code : List sm_R) (pc : Nat) : List (Int × Int) → List (Int32 × Nat) → Bool
  | [], [] => true
  | (k, off) :: ps, (c, t) :: ts => decide (c.toInt = k) && sm_tg code pc off t && sm_oklk code pc ps ts
  | _, _ => false
abbrev sm_L4 : Type := List (Nat × Nat × Nat × Nat)
abbrev sm_L3 : Type := List (Nat × Nat × Nat)
def sm_okr (P : List sm_I) (LF LP : sm_L4) (LM LN LS : sm_L3) (f : sm_I) (r : sm_R) : Bool := decide (decode (sm_Ib f) (sm_pc r) = .ok (sm_in r, sm_ln r)) && match sm_in r with
  | .iconst n => decide (sm_ln r = 1 ∧ Int32.ofInt n = sm_v r)
  | .bipush n => decide (sm_ln r = 2 ∧ (Int8.ofInt n).toInt32 = sm_v r)
  | .sipush n => decide (sm_ln r = 3 ∧ (Int16.ofInt n).toInt32 = sm_v r)
  | .iload_n k => decide (sm_ln r = 1 ∧ k.val = sm_x r)
  | .iload k => decide (sm_ln r = 2 ∧ k = sm_x r)
  | .aload_n k => decide (sm_ln r = 1 ∧ k.val = sm_x r)
  | .aload k => decide (sm_ln r = 2 ∧ k = sm_x r)
  | .istore_n k => decide (sm_ln r = 1 ∧ k.val = sm_x r ∧ sm_x r < sm_Il f)
  | .istore k => decide (sm_ln r = 2 ∧ k = sm_x r ∧ sm_x r < sm_Il f)
  | .astore_n k => decide (sm_ln r = 1 ∧ k.val = sm_x r ∧ sm_x r < sm_Il f)
  | .astore k => decide (sm_ln r = 2 ∧ k = sm_x r ∧ sm_x r < sm_Il f)
  | .iinc k n => decide (sm_ln r = 3 ∧ k = sm_x r ∧ Int32.ofInt n = sm_v r ∧ sm_x r < sm_Il f)
  | .iadd | .isub | .imul | .iand | .ixor | .iushr | .irem | .dup | .pop | .dup_x1 | .dup_x2 | .dup2 | .iaload | .baload | .iastore | .bastore | .arraylength => decide (sm_ln r = 1)
  | .ireturn => decide (sm_ln r = 1 ∧ (sm_Ir f).isSome = true)
  | .return_ => decide (sm_ln r = 1 ∧ (sm_Ir f).isSome = false)
  | .ifCond _ off => decide (sm_ln r = 3) && sm_tg (sm_Ic f) (sm_pc r) off (sm_x r)
  | .if_icmp _ off => decide (sm_ln r = 3) && sm_tg (sm_Ic f) (sm_pc r) off (sm_x r)
  | .goto off => decide (sm_ln r = 3) && sm_tg (sm_Ic f) (sm_pc r) off (sm_x r)
  | .tableswitch dflt lo hi offs => decide (hi + 1 = lo + (offs.size : Int)) && sm_tg (sm_Ic f) (sm_pc r) dflt (sm_x r) && sm_okts (sm_Ic f) (sm_pc r) lo offs.toList (sm_ts r)
  | .lookupswitch dflt ps => (ps.toList.zip (ps.toList.drop 1)).all (fun (a, next) => a.1 < next.1) && sm_tg (sm_Ic f) (sm_pc r) dflt (sm_x r) && sm_oklk (sm_Ic f) (sm_pc r) ps.toList (sm_ts r)
  | .getfield i => decide (sm_ln r = 3 ∧ (sm_Io f, i, sm_x r, sm_y r) ∈ LF)
  | .putfield i => decide (sm_ln r = 3 ∧ (sm_Io f, i, sm_x r, sm_y r) ∈ LP)
  | .getstatic i => decide (sm_ln r = 3 ∧ (sm_Io f, i, sm_x r) ∈ LS)
  | .invokevirtual i => decide (sm_ln r = 3 ∧ (sm_Io f, i, sm_x r) ∈ LM) && (match P[sm_x r]? with
    | some g => decide (sm_z r = sm_In g + 1 ∧ sm_y r = sm_Io g ∧ ((sm_ts r).isEmpty = (sm_Ir g).isNone))
    | none => false)
  | .invokestatic i => decide (sm_ln r = 3 ∧ (sm_Io f, i, sm_x r) ∈ LN) && (match P[sm_x r]? with
    | some g => decide (sm_z r = sm_In g ∧ ((sm_ts r).isEmpty = (sm_Ir g).isNone))
    | none => false)
  | _ => false
def sm_seq : List sm_R → Bool
  | r :: q :: t => decide (sm_pc q = sm_pc r + sm_ln r) && sm_seq (q :: t)
  | _ => true
def sm_okm (P : List sm_I) (LF LP : sm_L4) (LM LN LS : sm_L3) (f : sm_I) : Bool := sm_seq (sm_Ic f) && (sm_Ic f).all (sm_okr P LF LP LM LN LS f)
/-- the tables are good -/
def sm_V (TT : List Cond) (cls : List vw_C) (P : List sm_I) (nm : Nat → String) (LF LP : sm_L4) (LM LN LS : sm_L3) (sa : sm_Sa) (sh : List sm_Sh) : Prop :=
  (∀ w ∈ TT, goodWord w = true) ∧
  (∀ (ci : Nat) (C : String) (T : u_T) (N : Nat), cls[ci]? = some (C, T, N) → (∀ w ∈ u_ws C T N, w ∈ TT) ∧ (∃ ty : Nat → FieldType, ∀ k, k < N → parseFieldDescriptor (T k).2.2.1 = some (ty k)) ∧ ∀ a, a < N → ∀ b, b < N → a ≠ b → (T a).2.1 ≠ (T b).2.1) ∧
  (∀ o i ci k : Nat, (o, i, ci, k) ∈ LF → ∃ (C : String) (T : u_T) (N : Nat), cls[ci]? = some (C, T, N) ∧ k < N ∧ Cond.fieldLink (nm o) i C (T k).2.1 (T k).2.2.1 ∈ TT ∧ (T k).1 = C) ∧
  (∀ o i ci k : Nat, (o, i, ci, k) ∈ LP → (o, i, ci, k) ∈ LF ∧ ∀ (C : String) (T : u_T) (N : Nat), cls[ci]? = some (C, T, N) → (T k).2.2.2 = false) ∧
  (∀ o i x : Nat, (o, i, x) ∈ LM → ∃ g : sm_I, P[x]? = some g ∧ Cond.methodLink (nm o) i (sm_Iy g) ∈ TT ∧ Cond.instanceMethod (sm_Iy g) ∈ TT ∧ Cond.selects (sm_Iy g).cls (sm_Iy g) (sm_Iy g) ∈ TT ∧ (∃ (T : u_T) (N : Nat), cls[sm_Io g]? = some ((sm_Iy g).cls, T, N))) ∧
  (∀ o i x : Nat, (o, i, x) ∈ LN → ∃ g : sm_I, P[x]? = some g ∧ Cond.methodLink (nm o) i (sm_Iy g) ∈ TT ∧ Cond.static (sm_Iy g) ∈ TT) ∧
  (∀ (x : Nat) (g : sm_I), P[x]? = some g → Cond.code (sm_Iy g) (sm_Ib g) (sm_Il g) (sm_Ir g) ∈ TT ∧ Cond.initialized (sm_Iy g).cls ∈ TT ∧ nm (sm_Io g) = (sm_Iy g).cls ∧ ((sm_Iy g).cls ≠ "java/lang/invoke/MethodHandle" ∧ (sm_Iy g).cls ≠ "java/lang/invoke/VarHandle" ∧ (parseMethodDescriptor (sm_Iy g).desc).map (fun d => d.parameters.length) = some (sm_In g)) ∧ sm_Il g + 19 ≤ 64 ∧ (sm_Ir g = none ∨ sm_Ir g = some .int ∨ sm_Ir g = some .boolean) ∧ sm_okm P LF LP LM LN LS g = true) ∧
  (∀ o i x : Nat, (o, i, x) ∈ LS → ∃ q ∈ sa, q.1 = x ∧ 0 < x ∧ Cond.fieldLink (nm o) i q.2.1.1 q.2.1.2 "[I" ∈ TT) ∧
  (∀ (i c : Nat) (fs : List (Nat × Nat)), sh[i]? = some (2, c, fs) → ∃ (C : String) (T : u_T) (N : Nat), cls[c]? = some (C, T, N) ∧ fs.length = N ∧ ∀ (k a b : Nat), fs[k]? = some (a, b) → (a = 0 → (T k).2.2.1 = "I") ∧ (a = 3 → (T k).2.2.1 = "Z") ∧ (a = 2 → (∃ C' : String, parseFieldDescriptor (T k).2.2.1 = some (.object C')) ∧ ∀ (i' c' : Nat) (fs' : List (Nat × Nat)) (k' : Nat), sh[i']? = some (2, c', fs') → fs'[k']? = some (2, b) → i' = i ∧ k' = k)) ∧
  (∀ (i : Nat) (h : sm_Sh), sh[i]? = some h → h.1 = 0 ∨ h.1 = 1 ∨ h.1 = 2) ∧ ∀ q ∈ sa, 0 < q.1
end
section
/-! the world's cells by places -/
theorem sm_drop {α : Type} {l : List α} {t : Nat} {q : α} (h : l[t]? = some q) : l.drop t = q :: l.drop (t + 1) := by
  obtain ⟨hl, e⟩ := List.getElem?_eq_some_iff.mp h
  rw [List.drop_eq_getElem_cons hl, e]
theorem sm_ws_at {sh : List sm_Sh} {G : sm_G} {D : sm_D} {M : sm_M} {i : Nat} {h : sm_Sh} (hi : sh[i]? = some h) : (sm_ws sh G D M)[i]? = some (sm_ad G (i + 1), sm_ce G D (M (i + 1)) h) := by
  unfold sm_ws
  rw [List.getElem?_mapIdx, hi]
  rfl
theorem sm_ws_len {sh : List sm_Sh} {G : sm_G} {D : sm_D} {M : sm_M} : (sm_ws sh G D M).length = sh.length := by
  unfold sm_ws
  simp
theorem sm_ws_get {sh : List sm_Sh} {G : sm_G} {D : sm_D} {M : sm_M} {i : Nat} : (sm_ws sh G D M)[i]? = (sh[i]?).map (fun h => (sm_ad G (i + 1), sm_ce G D (M (i + 1)) h)) := by
  unfold sm_ws
  rw [List.getElem?_mapIdx]
theorem sm_up_same {M : sm_M} {p j : Nat} {v : Int32} : sm_up M p j v p = upd (M p) j v := by unfold sm_up; rw [if_pos rfl]
theorem sm_up_ne {M : sm_M} {p q j : Nat} {v : Int32} (h : q ≠ p) : sm_up M p j v q = M q := by unfold sm_up; rw [if_neg h]
/-- one cell's contents change -/
theorem sm_ws_set {sh : List sm_Sh} {G : sm_G} {D : sm_D} {M : sm_M} {i : Nat} {h : sm_Sh} {f : Nat → Int32} {M' : sm_M} (hi : sh[i]? = some h) (h1 : M' (i + 1) = f) (h2 : ∀ q, q ≠ i + 1 → M' q = M q) :
    (sm_ws sh G D M).set i (sm_ad G (i + 1), sm_ce G D f h) = sm_ws sh G D M' := by
  have hl : i < (sm_ws sh G D M).length := by rw [sm_ws_len]; exact (List.getElem?_eq_some_iff.mp hi).1
  apply List.ext_getElem?
  intro j
  by_cases hj : j = i
  · subst hj
    rw [List.getElem?_set_self hl, sm_ws_at hi, h1]
  · rw [List.getElem?_set_ne (Ne.symm hj), sm_ws_get, sm_ws_get]
    cases hs : sh[j]? with
    | none => rfl
    | some g => simp only [Option.map_some]; rw [h2 (j + 1) (by omega)]
theorem sm_ws_up {sh : List sm_Sh} {G : sm_G} {D : sm_D} {M : sm_M} {i j : Nat} {h : sm_Sh} {v : Int32} (hi : sh[i]? = some h) :
    (sm_ws sh G D M).set i (sm_ad G (i + 1), sm_ce G D (upd (M (i + 1)) j v) h) = sm_ws sh G D (sm_up M (i + 1) j v) := sm_ws_set hi sm_up_same (fun _ hq => sm_up_ne hq)
/-- a field of an object, an int -/
theorem sm_fs_set {G : sm_G} {D : sm_D} {f : Nat → Int32} {fs : List (Nat × Nat)} {k a b : Nat} {v : Int32} (hk : fs[k]? = some (a, b)) (ha : a = 0 ∨ a = 3) :
    (fs.mapIdx (fun k t => sm_fv (sm_ad G) D f k t)).set k (.int v) = fs.mapIdx (fun k' t => sm_fv (sm_ad G) D (upd f k v) k' t) := by
  have hl : k < fs.length := (List.getElem?_eq_some_iff.mp hk).1
  apply List.ext_getElem?
  intro j
  by_cases hj : j = k
  · subst hj
    rw [List.getElem?_set_self (by simpa using hl), List.getElem?_mapIdx, hk]
    rcases ha with rfl | rfl <;> simp [sm_fv, upd]
  · rw [List.getElem?_set_ne (Ne.symm hj), List.getElem?_mapIdx, List.getElem?_mapIdx]
    cases hs : fs[j]? with
    | none => rfl
    | some t =>
      obtain ⟨x, y⟩ := t
      simp only [Option.map_some, Option.some.injEq]
      unfold sm_fv
      split <;> first | rfl | (unfold upd; rw [if_neg hj])
/-- a field of an object, a cell -/
theorem sm_fs_setD {G : sm_G} {D : sm_D} {f : Nat → Int32} {fs : List (Nat × Nat)} {k j q : Nat} (hk : fs[k]? = some (2, j)) (hD : j < D.length) (hu : ∀ k', fs[k']? = some (2, j) → k' = k) :
    (fs.mapIdx (fun k t => sm_fv (sm_ad G) D f k t)).set k (sm_cz (sm_ad G) (.ref q)) = fs.mapIdx (fun k' t => sm_fv (sm_ad G) (D.set j q) f k' t) := by
  have hl : k < fs.length := (List.getElem?_eq_some_iff.mp hk).1
  apply List.ext_getElem?
  intro i
  by_cases hj : i = k
  · subst hj
    rw [List.getElem?_set_self (by simpa using hl), List.getElem?_mapIdx, hk]
    simp [sm_fv, List.getD, List.getElem?_set_self hD]
  · rw [List.getElem?_set_ne (Ne.symm hj), List.getElem?_mapIdx, List.getElem?_mapIdx]
    cases hs : fs[i]? with
    | none => rfl
    | some t =>
      obtain ⟨x, y⟩ := t
      simp only [Option.map_some, Option.some.injEq]
      match x, hs with
      | 0, _ => rfl
      | 1, _ => rfl
      | 2, hs =>
        have hne : j ≠ y := fun e => hj (hu i (by rw [hs, e]))
        show sm_cz (sm_ad G) (.ref (D.getD y 0)) = sm_cz (sm_ad G) (.ref ((D.set j q).getD y 0))
        simp [List.getD, List.getElem?_set_ne hne]
      | _ + 3, _ => rfl
theorem sm_ce_D {G : sm_G} {D D' : sm_D} {f : Nat → Int32} {h : sm_Sh} (hf : ∀ (c : Nat) (fs : List (Nat × Nat)), h = (2, c, fs) → ∀ (k j : Nat), fs[k]? = some (2, j) → D'.getD j 0 = D.getD j 0) (hx : h.1 = 0 ∨ h.1 = 1 ∨ h.1 = 2) : sm_ce G D' f h = sm_ce G D f h := by
  obtain ⟨a, c, fs⟩ := h
  rcases hx with e | e | e
  · cases e; rfl
  · cases e; rfl
  · cases e
    show Sum.inr _ = Sum.inr _
    congr 2
    apply List.ext_getElem?
    intro j
    rw [List.getElem?_mapIdx, List.getElem?_mapIdx]
    cases hs : fs[j]? with
    | none => rfl
    | some t =>
      obtain ⟨x, y⟩ := t
      simp only [Option.map_some, Option.some.injEq]
      match x, hs with
      | 0, _ => rfl
      | 1, _ => rfl
      | 2, hs =>
        show sm_cz (sm_ad G) (.ref (D'.getD y 0)) = sm_cz (sm_ad G) (.ref (D.getD y 0))
        rw [hf c fs rfl j y hs]
      | _ + 3, _ => rfl
theorem sm_ws_setD {sh : List sm_Sh} {G : sm_G} {D : sm_D} {M : sm_M} {i c k j q : Nat} {fs : List (Nat × Nat)} (hi : sh[i]? = some (2, c, fs)) (hk : fs[k]? = some (2, j)) (hD : j < D.length)
    (hu : ∀ (i' c' : Nat) (fs' : List (Nat × Nat)) (k' : Nat), sh[i']? = some (2, c', fs') → fs'[k']? = some (2, j) → i' = i ∧ k' = k) (hx : ∀ (i : Nat) (h : sm_Sh), sh[i]? = some h → h.1 = 0 ∨ h.1 = 1 ∨ h.1 = 2) :
    (sm_ws sh G D M).set i (sm_ad G (i + 1), .inr (c, (fs.mapIdx (fun k t => sm_fv (sm_ad G) D (M (i + 1)) k t)).set k (sm_cz (sm_ad G) (.ref q)))) = sm_ws sh G (D.set j q) M := by
  have hl : i < (sm_ws sh G D M).length := by rw [sm_ws_len]; exact (List.getElem?_eq_some_iff.mp hi).1
  apply List.ext_getElem?
  intro n
  by_cases hj : n = i
  · subst hj
    rw [List.getElem?_set_self hl, sm_ws_at hi, sm_fs_setD hk hD (fun k' hk' => (hu n c fs k' hi hk').2)]
    rfl
  · rw [List.getElem?_set_ne (Ne.symm hj), sm_ws_get, sm_ws_get]
    cases hs : sh[n]? with
    | none => rfl
    | some g =>
      simp only [Option.map_some, Option.some.injEq, Prod.mk.injEq, true_and]
      refine (sm_ce_D (fun c' fs' he k' j' hk' => ?_) (hx n g hs)).symm
      subst he
      have hne : j ≠ j' := fun e => hj (hu n c' fs' k' hs (by rw [hk', e])).1
      simp [List.getD, List.getElem?_set_ne hne]
/-! the locals -/
theorem sm_L_int {ad : Nat → Nat} {lsr : Array Slot} {nL : Nat} {ls : List Value} {i : Nat} {x : Int32} (h : sm_L ad lsr nL ls) (hi : ls[i]? = some (.int x)) : lsr[i]? = some (.val (.int x)) := by
  rcases h.2.2.2 i _ hi with h | ⟨-, h⟩
  · cases h
  · exact h
theorem sm_L_ref {ad : Nat → Nat} {lsr : Array Slot} {nL : Nat} {ls : List Value} {i p : Nat} (h : sm_L ad lsr nL ls) (hi : ls[i]? = some (.ref (p + 1))) : lsr[i]? = some (.val (.ref (ad (p + 1)))) := by
  rcases h.2.2.2 i _ hi with h | ⟨-, h⟩
  · cases h
  · exact h
theorem sm_c1_cat {ad : Nat → Nat} {v : Value} (h : sm_c1 v = true) : (sm_cz ad v).category = 1 := by
  cases v with
  | int x => rfl
  | ref p => cases p <;> rfl
  | _ => cases h
/-- the pairs that the list names -/
def sm_prs (ad : Nat → Nat) (ls : List Value) : List (Nat × Value) := (ls.mapIdx (fun i v => (i, v))).filterMap (fun q => if sm_c1 q.2 = true then some (q.1, sm_cz ad q.2) else none)
theorem sm_prs_mem {ad : Nat → Nat} {ls : List Value} {q : Nat × Value} (h : q ∈ sm_prs ad ls) : ∃ v, ls[q.1]? = some v ∧ sm_c1 v = true ∧ q.2 = sm_cz ad v := by
  obtain ⟨⟨i, v⟩, h1, h2⟩ := List.mem_filterMap.mp h
  obtain ⟨n, hn⟩ := List.getElem?_of_mem h1
  rw [List.getElem?_mapIdx] at hn
  cases hs : ls[n]? with
  | none => rw [hs] at hn; cases hn
  | some w =>
    rw [hs] at hn
    simp only [Option.map_some, Option.some.injEq, Prod.mk.injEq] at hn
    obtain ⟨rfl, rfl⟩ := hn
    dsimp only at h2
    split at h2
    · rename_i hc
      cases h2
      exact ⟨w, hs, hc, rfl⟩
    · cases h2
theorem sm_prs_in {ad : Nat → Nat} {ls : List Value} {i : Nat} {v : Value} (h : ls[i]? = some v) (hc : sm_c1 v = true) : (i, sm_cz ad v) ∈ sm_prs ad ls := by
  refine List.mem_filterMap.mpr ⟨(i, v), ?_, by dsimp only; rw [if_pos hc]⟩
  apply List.mem_of_getElem? (i := i)
  rw [List.getElem?_mapIdx, h]
  rfl
theorem sm_L_has {ad : Nat → Nat} {lsr : Array Slot} {nL : Nat} {ls : List Value} (h : sm_L ad lsr nL ls) : lv_has lsr nL (sm_prs ad ls) := by
  refine ⟨h.2.1, h.2.2.1, fun q hq => ?_⟩
  obtain ⟨v, h1, h2, h3⟩ := sm_prs_mem hq
  rcases h.2.2.2 q.1 v h1 with e | ⟨-, e⟩
  · rw [e] at h2; cases h2
  · rw [h3]; exact e
theorem sm_L_set {ad : Nat → Nat} {lsr ls' : Array Slot} {nL : Nat} {ls : List Value} {i : Nat} {v : Value} (h : sm_L ad lsr nL ls) (hv : sm_c1 v = true)
    (h' : lv_has ls' nL ((i, sm_cz ad v) :: (sm_prs ad ls).filter (fun q => !(q.1 == i) && !(q.1 + 1 == i && q.2.category == 2)))) : sm_L ad ls' nL (ls.set i v) := by
  refine ⟨by rw [List.length_set]; exact h.1, h'.1, h'.2.1, fun j w hj => ?_⟩
  by_cases hji : j = i
  · subst hji
    by_cases hl : j < ls.length
    · rw [List.getElem?_set_self hl] at hj
      cases hj
      exact Or.inr ⟨hv, h'.2.2 _ List.mem_cons_self⟩
    · rw [List.getElem?_eq_none (by rw [List.length_set]; omega)] at hj
      cases hj
  · rw [List.getElem?_set_ne (Ne.symm hji)] at hj
    rcases h.2.2.2 j w hj with e | ⟨e, -⟩
    · exact Or.inl e
    · refine Or.inr ⟨e, h'.2.2 (j, sm_cz ad w) (List.mem_cons_of_mem _ (List.mem_filter.mpr ⟨sm_prs_in hj e, ?_⟩))⟩
      simp [hji, sm_c1_cat e]
theorem sm_sl {vs : List Value} (h : ∀ v ∈ vs, v.category = 1) : lg_sl vs = vs.map Slot.val := by
  induction vs with
  | nil => rfl
  | cons a t ih =>
    have h1 := h a List.mem_cons_self
    have h2 := ih (fun v hv => h v (List.mem_cons_of_mem _ hv))
    unfold lg_sl at h2 ⊢
    rw [List.flatMap_cons, h2, if_neg (by omega)]
    rfl
theorem sm_L_entry {ad : Nat → Nat} {as : List Value} {nL : Nat} (hl : as.length ≤ nL) (hc : ∀ v ∈ as, sm_c1 v = true) :
    sm_L ad ((lg_sl (as.map (sm_cz ad)) ++ List.replicate (nL - (lg_sl (as.map (sm_cz ad))).length) Slot.unset).toArray) nL (as ++ List.replicate (nL - as.length) (.retAddr 0)) := by
  have h1 : lg_sl (as.map (sm_cz ad)) = (as.map (sm_cz ad)).map Slot.val := sm_sl (fun v hv => by
    obtain ⟨w, hw, rfl⟩ := List.mem_map.mp hv
    exact sm_c1_cat (hc w hw))
  have h2 := lv_entry (as.map (sm_cz ad)) (n := nL) (by rw [h1]; simpa using hl)
  refine ⟨by simp; omega, h2.1, h2.2.1, fun i v hi => ?_⟩
  by_cases hia : i < as.length
  · rw [List.getElem?_append_left hia] at hi
    refine Or.inr ⟨hc v (List.mem_of_getElem? hi), ?_⟩
    rw [h1, List.getElem?_toArray, List.getElem?_append_left (by simpa using hia)]
    simp [hi]
  · rw [List.getElem?_append_right (by omega)] at hi
    exact Or.inl (List.eq_of_mem_replicate (List.mem_of_getElem? hi))
end
section
/-! what a step's success says -/
section
variable {ρ : Type} {sh : List sm_Sh} {sa : sm_Sa} {st : List Value} {D : sm_D} {M : sm_M} {v : ρ}
theorem sm_ck_inv {i : Int32} {n : Nat} {k : Option ρ} (h : sm_ck i n k = some v) : vp_in i n ∧ k = some v := by
  unfold sm_ck at h
  split at h
  · rename_i hc
    exact ⟨vp_in_iff.mpr hc, h⟩
  · cases h
theorem sm_bo_inv {a : Int32} {k : Option ρ} (h : sm_bo a k = some v) : (a = 0 ∨ a = 1) ∧ k = some v := by
  unfold sm_bo at h
  split at h
  · rename_i hc
    exact ⟨hc, h⟩
  · cases h
theorem sm_nz_inv {a : Int32} {k : Option ρ} (h : sm_nz a k = some v) : ¬ a = 0 ∧ k = some v := by
  unfold sm_nz at h
  split at h
  · cases h
  · rename_i hc
    exact ⟨hc, h⟩
theorem sm_p1_inv {k : Int32 → List Value → Option ρ} (h : sm_p1 st k = some v) : ∃ (a : Int32) (t : List Value), st = .int a :: t ∧ k a t = some v := by
  unfold sm_p1 at h
  split at h
  · exact ⟨_, _, rfl, h⟩
  · cases h
theorem sm_p2_inv {k : Int32 → Int32 → List Value → Option ρ} (h : sm_p2 st k = some v) : ∃ (a b : Int32) (t : List Value), st = .int b :: .int a :: t ∧ k a b t = some v := by
  unfold sm_p2 at h
  split at h
  · exact ⟨_, _, _, rfl, h⟩
  · cases h
theorem sm_pr_inv {k : Nat → List Value → Option ρ} (h : sm_pr st k = some v) : ∃ (p : Nat) (t : List Value), st = .ref (p + 1) :: t ∧ k p t = some v := by
  unfold sm_pr at h
  split at h
  · exact ⟨_, _, rfl, h⟩
  · cases h
theorem sm_v1_inv {k : Value → List Value → Option ρ} (h : sm_v1 st k = some v) : ∃ (w : Value) (t : List Value), st = w :: t ∧ sm_c1 w = true ∧ k w t = some v := by
  unfold sm_v1 at h
  split at h
  · rename_i w t
    split at h
    · rename_i hc
      exact ⟨w, t, rfl, hc, h⟩
    · cases h
  · cases h
theorem sm_re_inv {zr : Bool} {a : Int32} {k : Option ρ} (h : sm_re st zr a k = some v) : st = [] ∧ (zr = true → a = 0 ∨ a = 1) ∧ k = some v := by
  unfold sm_re at h
  split at h
  · obtain ⟨h1, h2⟩ := sm_bo_inv h
    exact ⟨rfl, fun _ => h1, h2⟩
  · exact ⟨rfl, fun q => (by cases q), h⟩
  · cases h
theorem sm_lo_inv {ls : List Value} {i : Nat} {k : Value → Option ρ} (h : sm_lo ls i k = some v) : (∃ a : Int32, ls[i]? = some (.int a) ∧ k (.int a) = some v) ∨ ∃ p : Nat, ls[i]? = some (.ref (p + 1)) ∧ k (.ref (p + 1)) = some v := by
  unfold sm_lo at h
  split at h
  · rename_i a he
    exact Or.inl ⟨a, he, h⟩
  · rename_i p he
    exact Or.inr ⟨p, he, h⟩
  · cases h
theorem sm_at_inv {p : Nat} {c : sm_Sh} (h : sm_at sh p = some c) : ∃ i, p = i + 1 ∧ sh[i]? = some c := by
  unfold sm_at at h
  split at h
  · cases h
  · exact ⟨_, rfl, h⟩
theorem sm_sa_inv {p : Nat} {vs : List Nat} : ∀ {sa : sm_Sa}, sm_sa sa p = some vs → ∃ q ∈ sa, q.1 = p ∧ q.2.2 = vs
  | [], h => by cases h
  | q :: r, h => by
    unfold sm_sa at h
    split at h
    · rename_i he
      cases h
      exact ⟨q, List.mem_cons_self, he, rfl⟩
    · obtain ⟨q', h1, h2⟩ := sm_sa_inv h
      exact ⟨q', List.mem_cons_of_mem _ h1, h2⟩
theorem sm_ald_inv {k : Int32 → List Value → Option ρ} (h : sm_ald sh sa st M k = some v) : ∃ (i : Int32) (p : Nat) (t : List Value), st = .int i :: .ref p :: t ∧
    ((∃ (j n : Nat) (fs : List (Nat × Nat)), p = j + 1 ∧ sh[j]? = some (0, n, fs) ∧ vp_in i n ∧ k (M p i.toNatClampNeg) t = some v) ∨
      ∃ vs : List Nat, (∃ q ∈ sa, q.1 = p ∧ q.2.2 = vs) ∧ vp_in i vs.length ∧ k (sm_tab vs i.toNatClampNeg) t = some v) := by
  unfold sm_ald at h
  split at h
  · rename_i i p t
    refine ⟨i, p, t, rfl, ?_⟩
    split at h
    · rename_i n fs he
      obtain ⟨h1, h2⟩ := sm_ck_inv h
      obtain ⟨j, e1, e2⟩ := sm_at_inv he
      exact Or.inl ⟨j, n, fs, e1, e2, h1, h2⟩
    · cases h
    · split at h
      · rename_i vs he
        obtain ⟨h1, h2⟩ := sm_ck_inv h
        exact Or.inr ⟨vs, sm_sa_inv he, h1, h2⟩
      · cases h
  · cases h
theorem sm_zld_inv {k : Int32 → List Value → Option ρ} (h : sm_zld sh st M k = some v) : ∃ (i : Int32) (j n : Nat) (fs : List (Nat × Nat)) (t : List Value), st = .int i :: .ref (j + 1) :: t ∧ sh[j]? = some (1, n, fs) ∧ vp_in i n ∧ k (M (j + 1) i.toNatClampNeg) t = some v := by
  unfold sm_zld at h
  split at h
  · rename_i i p t
    split at h
    · rename_i n fs he
      obtain ⟨h1, h2⟩ := sm_ck_inv h
      obtain ⟨j, rfl, e2⟩ := sm_at_inv he
      exact ⟨i, j, n, fs, t, rfl, e2, h1, h2⟩
    · cases h
  · cases h
theorem sm_ast_inv {k : List Value → sm_M → Option ρ} (h : sm_ast sh st M k = some v) : ∃ (x i : Int32) (j n : Nat) (fs : List (Nat × Nat)) (t : List Value), st = .int x :: .int i :: .ref (j + 1) :: t ∧ sh[j]? = some (0, n, fs) ∧ vp_in i n ∧ k t (sm_up M (j + 1) i.toNatClampNeg x) = some v := by
  unfold sm_ast at h
  split at h
  · rename_i x i p t
    split at h
    · rename_i n fs he
      obtain ⟨h1, h2⟩ := sm_ck_inv h
      obtain ⟨j, rfl, e2⟩ := sm_at_inv he
      exact ⟨x, i, j, n, fs, t, rfl, e2, h1, h2⟩
    · cases h
  · cases h
theorem sm_zst_inv {k : List Value → sm_M → Option ρ} (h : sm_zst sh st M k = some v) : ∃ (x i : Int32) (j n : Nat) (fs : List (Nat × Nat)) (t : List Value), st = .int x :: .int i :: .ref (j + 1) :: t ∧ sh[j]? = some (1, n, fs) ∧ vp_in i n ∧ (x = 0 ∨ x = 1) ∧ k t (sm_up M (j + 1) i.toNatClampNeg x) = some v := by
  unfold sm_zst at h
  split at h
  · rename_i x i p t
    split at h
    · rename_i n fs he
      obtain ⟨h1, h2⟩ := sm_ck_inv h
      obtain ⟨h4, h3⟩ := sm_bo_inv h2
      obtain ⟨j, rfl, e2⟩ := sm_at_inv he
      exact ⟨x, i, j, n, fs, t, rfl, e2, h1, h4, h3⟩
    · cases h
  · cases h
theorem sm_aln_inv {k : Int32 → List Value → Option ρ} (h : sm_aln sh st k = some v) : ∃ (j n : Nat) (fs : List (Nat × Nat)) (t : List Value), st = .ref (j + 1) :: t ∧ sh[j]? = some (0, n, fs) ∧ k (nI n) t = some v := by
  unfold sm_aln at h
  split at h
  · rename_i p t
    split at h
    · rename_i n fs he
      obtain ⟨j, rfl, e2⟩ := sm_at_inv he
      exact ⟨j, n, fs, t, rfl, e2, h⟩
    · cases h
  · cases h
theorem sm_get_inv {ci fk : Nat} {k : Value → List Value → Option ρ} (h : sm_get sh ci fk st D M k = some v) : ∃ (j : Nat) (fs : List (Nat × Nat)) (t : List Value) (a b : Nat) (x : Value), st = .ref (j + 1) :: t ∧ sh[j]? = some (2, ci, fs) ∧ fs[fk]? = some (a, b) ∧ k x t = some v ∧ ∀ ad : Nat → Nat, sm_fv ad D (M (j + 1)) fk (a, b) = sm_cz ad x := by
  unfold sm_get at h
  split at h
  · rename_i p t
    split at h
    · rename_i c fs he
      obtain ⟨j, rfl, e2⟩ := sm_at_inv he
      split at h
      · rename_i hc
        have hc := Nat.eq_of_beq_eq_true hc
        subst hc
        split at h
        · rename_i b hk
          exact ⟨j, fs, t, _, _, _, rfl, e2, hk, h, fun ad => rfl⟩
        · rename_i b hk
          exact ⟨j, fs, t, _, _, _, rfl, e2, hk, h, fun ad => rfl⟩
        · rename_i q hk
          exact ⟨j, fs, t, _, _, _, rfl, e2, hk, h, fun ad => rfl⟩
        · rename_i j' hk
          split at h
          · rename_i q hq
            refine ⟨j, fs, t, _, _, _, rfl, e2, hk, h, fun ad => ?_⟩
            show sm_cz ad (.ref (D.getD j' 0)) = _
            rw [List.getD, hq]
            rfl
          · cases h
        · cases h
      · cases h
    · cases h
  · cases h
theorem sm_put_inv {ci fk : Nat} {k : List Value → sm_D → sm_M → Option ρ} (h : sm_put sh ci fk st D M k = some v) :
    (∃ (x : Int32) (j : Nat) (fs : List (Nat × Nat)) (t : List Value) (a b : Nat), st = .int x :: .ref (j + 1) :: t ∧ sh[j]? = some (2, ci, fs) ∧ fs[fk]? = some (a, b) ∧ (a = 0 ∨ (a = 3 ∧ (x = 0 ∨ x = 1))) ∧ k t D (sm_up M (j + 1) fk x) = some v) ∨
    ∃ (q j : Nat) (fs : List (Nat × Nat)) (t : List Value) (b : Nat), st = .ref q :: .ref (j + 1) :: t ∧ sh[j]? = some (2, ci, fs) ∧ fs[fk]? = some (2, b) ∧ b < D.length ∧ k t (D.set b q) M = some v := by
  unfold sm_put at h
  split at h
  · rename_i x p t
    split at h
    · rename_i c fs he
      obtain ⟨j, rfl, e2⟩ := sm_at_inv he
      split at h
      · rename_i hc
        have hc := Nat.eq_of_beq_eq_true hc
        subst hc
        split at h
        · rename_i b hk
          exact Or.inl ⟨x, j, fs, t, _, _, rfl, e2, hk, Or.inl rfl, h⟩
        · rename_i b hk
          obtain ⟨h1, h2⟩ := sm_bo_inv h
          exact Or.inl ⟨x, j, fs, t, _, _, rfl, e2, hk, Or.inr ⟨rfl, h1⟩, h2⟩
        · cases h
      · cases h
    · cases h
  · rename_i q p t
    split at h
    · rename_i c fs he
      obtain ⟨j, rfl, e2⟩ := sm_at_inv he
      split at h
      · rename_i hc
        have hc := Nat.eq_of_beq_eq_true hc
        subst hc
        split at h
        · rename_i j' hk
          split at h
          · rename_i q' hq
            exact Or.inr ⟨q, j, fs, t, _, rfl, e2, hk, (List.getElem?_eq_some_iff.mp hq).1, h⟩
          · cases h
        · cases h
      · cases h
    · cases h
  · cases h
theorem sm_bi_inv {c : Option sm_S} {k : Int32 → sm_D → sm_M → Option ρ} (h : sm_bi c k = some v) : ∃ (x : Int32) (D : sm_D) (M : sm_M), c = some (x, D, M) ∧ k x D M = some v := by
  unfold sm_bi at h
  split at h
  · exact ⟨_, _, _, rfl, h⟩
  · cases h
theorem sm_rcv_inv {ci : Nat} {as : List Value} (h : sm_rcv sh ci as = true) : ∃ (j : Nat) (fs : List (Nat × Nat)) (t : List Value), as = .ref (j + 1) :: t ∧ sh[j]? = some (2, ci, fs) := by
  unfold sm_rcv at h
  split at h
  · rename_i p t
    split at h
    · rename_i c fs he
      obtain ⟨j, rfl, e2⟩ := sm_at_inv he
      have hc := Nat.eq_of_beq_eq_true h
      subst hc
      exact ⟨j, fs, t, rfl, e2⟩
    · cases h
  · cases h
theorem sm_dq_inv {D E : sm_D} {k : Option ρ} (h : sm_dq D E k = some v) : D = E ∧ k = some v := by
  unfold sm_dq at h
  split at h
  · rename_i hc
    exact ⟨hc, h⟩
  · cases h
theorem sm_inv_inv {ok : List Value → Bool} {cal : sm_Cal} {x z w : Nat} {k : Int32 → List Value → sm_D → sm_M → Option ρ} (h : sm_inv ok cal x z w st D M k = some v) :
    ∃ (as rest : List Value) (a : Int32) (D' : sm_D) (M' : sm_M), st = as.reverse ++ rest ∧ as.length = z ∧ rest.length ≤ 8 ∧ (∀ w ∈ rest, sm_c1 w = true) ∧ ok as = true ∧ cal x as D M = some (a, D', M') ∧ k a rest D' M' = some v := by
  unfold sm_inv at h
  split at h
  · rename_i h1 h2 h3 h6
    obtain ⟨a, D', M', h4, h5⟩ := sm_bi_inv h
    obtain ⟨he, h5⟩ := sm_dq_inv h5
    rw [← he] at h5
    refine ⟨(st.take z).reverse, st.drop z, a, D', M', by simp, ?_, Nat.le_of_ble_eq_true h1, List.all_eq_true.mp h6, h2, h4, h5⟩
    have := Nat.le_of_ble_eq_true h3
    simp
    omega
  · cases h
theorem sm_cn_inv {cd : ClassFile.Cond} {a b : Int32} {t f : Option ρ} (h : sm_cn cd a b t f = some v) : t = some v ∨ f = some v := by
  unfold sm_cn at h
  split at h <;> split at h <;> first | exact Or.inl h | exact Or.inr h
end
end
section
/-! one step of the small machine is a walk of the real one -/
section
variable {ρ : Type} {v : ρ} {a b : Int32} {t f : Option ρ}
theorem sm_cn_eq (h : sm_cn .eq a b t f = some v) : (a = b → t = some v) ∧ (¬ a = b → f = some v) := by
  unfold sm_cn at h
  exact ⟨fun q => by simpa [q] using h, fun q => by simpa [q] using h⟩
theorem sm_cn_ne (h : sm_cn .ne a b t f = some v) : (¬ a = b → t = some v) ∧ (a = b → f = some v) := by
  unfold sm_cn at h
  exact ⟨fun q => by simpa [q] using h, fun q => by simpa [q] using h⟩
theorem sm_cn_lt (h : sm_cn .lt a b t f = some v) : (a < b → t = some v) ∧ (¬ a < b → f = some v) := by
  replace h : (if a < b then t else f) = some v := h
  exact ⟨fun q => by rw [if_pos q] at h; exact h, fun q => by rw [if_neg q] at h; exact h⟩
theorem sm_cn_ge (h : sm_cn .ge a b t f = some v) : (b ≤ a → t = some v) ∧ (¬ b ≤ a → f = some v) := by
  replace h : (if a < b then f else t) = some v := h
  exact ⟨fun q => by rw [if_neg (Int32.not_lt.mpr q)] at h; exact h, fun q => by rw [if_pos (Int32.not_le.mp q)] at h; exact h⟩
theorem sm_cn_gt (h : sm_cn .gt a b t f = some v) : (b < a → t = some v) ∧ (¬ b < a → f = some v) := by
  replace h : (if b < a then t else f) = some v := h
  exact ⟨fun q => by rw [if_pos q] at h; exact h, fun q => by rw [if_neg q] at h; exact h⟩
theorem sm_cn_le (h : sm_cn .le a b t f = some v) : (a ≤ b → t = some v) ∧ (¬ a ≤ b → f = some v) := by
  replace h : (if b < a then f else t) = some v := h
  exact ⟨fun q => by rw [if_neg (Int32.not_lt.mpr q)] at h; exact h, fun q => by rw [if_pos (Int32.not_le.mp q)] at h; exact h⟩
end
theorem sm_code_at {α : Type} {l rest : List α} {i : Nat} {r : α} (h : l.drop i = r :: rest) : l[i]? = some r ∧ rest = l.drop (i + 1) := by
  constructor
  · have := congrArg (fun z => z[0]?) h
    simpa [List.getElem?_drop] using this
  · have := congrArg List.tail h
    simpa [List.tail_drop] using this.symm
theorem sm_seq_at : ∀ {l : List sm_R} {i : Nat} {r q : sm_R}, sm_seq l = true → l[i]? = some r → l[i + 1]? = some q → sm_pc q = sm_pc r + sm_ln r
  | [], _, _, _, _, h, _ => by simp at h
  | [_], i, _, _, _, _, h => by simp at h
  | x :: y :: t, i, r, q, hs, h1, h2 => by
    unfold sm_seq at hs
    simp only [Bool.and_eq_true, decide_eq_true_eq] at hs
    cases i with
    | zero =>
      simp at h1 h2
      subst h1; subst h2
      exact hs.1
    | succ i =>
      rw [List.getElem?_cons_succ] at h1 h2
      exact sm_seq_at hs.2 h1 h2
theorem sm_sw_inv {ρ : Type} {a : Int32} {d : Nat} {k : Nat → Option ρ} {v : ρ} : ∀ {ts : List (Int32 × Nat)}, sm_sw a d k ts = some v → (∃ (n : Nat) (t : Nat), ts[n]? = some (a, t) ∧ (∀ m, m < n → ∀ q, ts[m]? = some q → q.1 ≠ a) ∧ k t = some v) ∨ ((∀ q ∈ ts, q.1 ≠ a) ∧ k d = some v)
  | [], h => Or.inr ⟨fun q hq => (by cases hq), h⟩
  | (c, t) :: r, h => by
    unfold sm_sw at h
    split at h
    · rename_i he
      subst he
      exact Or.inl ⟨0, t, rfl, fun m hm => by omega, h⟩
    · rename_i he
      rcases sm_sw_inv h with ⟨n, t', h1, h2, h3⟩ | ⟨h1, h2⟩
      · refine Or.inl ⟨n + 1, t', h1, fun m hm q hq => ?_, h3⟩
        cases m with
        | zero => cases hq; exact fun e => he e.symm
        | succ m => exact h2 m (by omega) q hq
      · refine Or.inr ⟨fun q hq => ?_, h2⟩
        rcases List.mem_cons.mp hq with rfl | hq
        · exact fun e => he e.symm
        · exact h1 q hq
theorem sm_okts_at {code : List sm_R} {pc : Nat} : ∀ {offs : List Int} {ts : List (Int32 × Nat)} {lo : Int}, sm_okts code pc lo offs ts = true → offs.length = ts.length ∧ ∀ (n : Nat) (c : Int32) (t : Nat), ts[n]? = some (c, t) → c.toInt = lo + (n : Int) ∧ ∃ off, offs[n]? = some off ∧ sm_tg code pc off t = true
  | [], [], _, _ => ⟨rfl, fun n c t h => by simp at h⟩
  | [], _ :: _, _, h => by cases h
  | _ :: _, [], _, h => by cases h
  | off :: offs, (c, t) :: ts, lo, h => by
    unfold sm_okts at h
    simp only [Bool.and_eq_true, decide_eq_true_eq] at h
    obtain ⟨h1, h2⟩ := sm_okts_at h.2
    refine ⟨by simp [h1], fun n c' t' hn => ?_⟩
    cases n with
    | zero => cases hn; exact ⟨by rw [h.1.1]; simp, off, rfl, h.1.2⟩
    | succ n =>
      rw [List.getElem?_cons_succ] at hn
      obtain ⟨h3, o2, h4, h5⟩ := h2 n c' t' hn
      exact ⟨by rw [h3]; omega, o2, h4, h5⟩
theorem sm_oklk_at {ρ : Type} {code : List sm_R} {pc d : Nat} {dflt : Int} {a : Int32} {k : Nat → Option ρ} {v : ρ} (hd : sm_tg code pc dflt d = true) : ∀ {ps : List (Int × Int)} {ts : List (Int32 × Nat)}, sm_oklk code pc ps ts = true → sm_sw a d k ts = some v → ∃ t, sm_tg code pc (Op.lookupswitch.offset ps dflt a.toInt) t = true ∧ k t = some v
  | [], [], _, h => ⟨d, hd, h⟩
  | [], _ :: _, h, _ => by cases h
  | _ :: _, [], h, _ => by cases h
  | (x, off) :: ps, (c, t) :: ts, h, hs => by
    unfold sm_oklk at h
    simp only [Bool.and_eq_true, decide_eq_true_eq] at h
    unfold sm_sw at hs
    unfold Op.lookupswitch.offset
    split at hs
    · rename_i he
      subst he
      refine ⟨t, ?_, hs⟩
      simp [h.1.1, h.1.2]
    · rename_i he
      obtain ⟨t', h1, h2⟩ := sm_oklk_at hd h.2 hs
      refine ⟨t', ?_, h2⟩
      have hne : ¬ a.toInt = x := fun q => he (Int32.toInt_inj.mp (q.trans h.1.1.symm))
      have hne' : ¬ x = a.toInt := fun q => hne q.symm
      simp [hne, hne', h1]
section
variable {TT : List Cond} {cls : List vw_C} {P : List sm_I} {nm : Nat → String} {LF LP : sm_L4} {LM LN LS : sm_L3} {sa : sm_Sa} {sh : List sm_Sh} {f : sm_I} {d : Nat} {R : sm_S}
theorem sm_V.row {kx i : Nat} {r : sm_R} (V : sm_V TT cls P nm LF LP LM LN LS sa sh) (hf : P[kx]? = some f) (hr : (sm_Ic f)[i]? = some r) : sm_okr P LF LP LM LN LS f r = true ∧ sm_seq (sm_Ic f) = true := by
  have h := (V.2.2.2.2.2.2.1 kx f hf).2.2.2.2.2.2
  unfold sm_okm at h
  simp only [Bool.and_eq_true, List.all_eq_true] at h
  exact ⟨h.2 r (List.mem_of_getElem? hr), h.1⟩
theorem sm_tg_at {code : List sm_R} {pc t : Nat} {off : Int} (h : sm_tg code pc off t = true) : ∃ q, code.drop t = q :: code.drop (t + 1) ∧ (pc : Int) + off = (sm_pc q : Int) := by
  unfold sm_tg at h
  split at h
  · rename_i q hq
    exact ⟨q, sm_drop hq, of_decide_eq_true h⟩
  · cases h
/-- behind a call -/
theorem sm_callr {p : Program} {l : Launch} {e : Env} {Rm : Room} {s : State} {m : MethodId} {args a : Array Value} {below : List Frame} {meth : Method} {c : Code} {H H0 : Heap} {locs : List Loc} {Q : State → Prop} {pc : Nat} {ls : Array Slot} {rest st0 : List Value} {A0 A1 : Nat → Prop} {G : sm_G} {ret : Option FieldType} {Rv : sm_S}
    (hr : va_Run p l e Rm s m args below meth c H locs 0 0 0 0 (F0 m pc ls st0) rest (sm_Qc cls sh G A1 ret Rv a) A1) (hS : va_S A0 H0 H locs) (hA : ∀ q, A1 q → A0 q)
    (kk : ∀ (t : State) (H1 : Heap) (locs1 : List Loc), s.vm.Alike t.vm → va_P G.1 cls (sm_ws sh G Rv.2.1 Rv.2.2) H1 → va_D A1 (sm_ws sh G Rv.2.1 Rv.2.2) → va_S A0 H0 H1 locs1 → W p l e Rm s m args below meth c H1 locs1 0 0 Q (F0 m (pc + 3) ls ((sm_rv ret Rv.1).toList ++ rest))) : W p l e Rm s m args below meth c H locs 0 0 Q (F0 m pc ls st0) := by
  intro T hT X
  obtain ⟨v, st₀, t, T', L, h0, X', hL, e1, e2, ⟨hv, ⟨hP1, hK1, hD1⟩, hz, hk⟩, st⟩ := hr T hT X
  cases hv
  rw [h0] at hz hk
  obtain ⟨t2, a1, b1⟩ := kk t T'.heap (locs ++ L) (by rw [← e2]; exact X'.warmed.alike) (by rw [e1]; exact hP1) hD1
    ⟨Nat.le_trans hS.1 (by rw [e1]; exact hz), fun q h1 h2 => by rw [e1, hk q (Nat.lt_of_lt_of_le h1 hS.1) (fun z => h2 (hA q z))]; exact hS.2.1 q h1 h2, fun q hq => by
      rcases List.mem_append.mp hq with h | h
      · exact hS.2.2 q h
      · exact hA _ (hL q h)⟩ T' rfl X'
  exact ⟨t2, st t2 a1, b1⟩
theorem sm_sta.to {G : sm_G} {A A1 : Nat → Prop} {s U : State} {H : Heap} {locs : List Loc} (h : sm_sta sa G A s s.heap) (hS : va_S A s.heap H locs) (hA : ∀ q, A1 q → A q) (hU : U.heap = H) (hal : s.vm.Alike U.vm) : sm_sta sa G A1 U U.heap := by
  intro q hq
  obtain ⟨h1, h2⟩ := h q hq
  rw [hU]
  exact ⟨((h1.kept hS.2.1).narrow hA).moved hal, ((h2.kept hS.2.1).narrow hA).moved hal⟩
theorem sm_blind {G : sm_G} {sz : Nat} {as : List Value} {D : sm_D} {M : sm_M} : FrameBlind (sm_Pc cls sa sh G sz as D M) := by
  intro a U g mk h
  obtain ⟨h0, h1, h2, h3, h4, h5⟩ := h
  refine ⟨h0, h1, h2, va_K.moved (u := U) (U := U.calling g mk a) (Vm.Alike.refl U.vm) h3, h4, fun q hq => ?_⟩
  obtain ⟨q1, q2⟩ := h5 q hq
  exact ⟨va_Z.moved (u := U) (U := U.calling g mk a) (Vm.Alike.refl U.vm) q1, va_T.moved (u := U) (U := U.calling g mk a) (Vm.Alike.refl U.vm) q2⟩
theorem sm_cat_sum {ad : Nat → Nat} : ∀ {st : List Value}, (∀ v ∈ st, (sm_cz ad v).category ≤ 1) → ((st.map (sm_cz ad)).map fun v => v.category).sum ≤ st.length
  | [], _ => by simp
  | v :: t, h => by
    have h1 := h v List.mem_cons_self
    have h2 := sm_cat_sum (ad := ad) (st := t) (fun w hw => h w (List.mem_cons_of_mem _ hw))
    simp only [List.map_cons, List.sum_cons, List.length_cons]
    omega
theorem sm_st_ok {ρ : Type} {cal : sm_Cal} {zr : Bool} {ret : Int32 → sm_D → sm_M → Option ρ} {nx : sm_K ρ} {gd : ρ → Prop} {kx : Nat}
    (V : sm_V TT cls P nm LF LP LM LN LS sa sh) (hf : P[kx]? = some f) (hz : zr = decide (sm_Ir f = some .boolean))
    (hcal : ∀ (x : Nat) (g : sm_I) (as : List Value) (D : sm_D) (M : sm_M) (R' : sm_S), P[x]? = some g → cal x as D M = some R' → ∃ d', d' + 1 ≤ d ∧ sm_MJ TT cls sa sh g d' as D M R')
    (hret : ∀ (a : Int32) (D : sm_D) (M : sm_M) (v : ρ), ret a D M = some v → gd v → R = (a, D, M))
    (hnil : ∀ (ls st : List Value) (D : sm_D) (M : sm_M), nx [] ls st D M = none)
    (hnx : ∀ (j : Nat) (q : sm_R) (t : List sm_R) (ls st : List Value) (D : sm_D) (M : sm_M) (v : ρ), (sm_Ic f).drop j = q :: t → nx (q :: t) ls st D M = some v → gd v → sm_WJ TT cls sa sh f d (sm_pc q) ls st D M R)
    {i : Nat} {r : sm_R} {rest : List sm_R} (hr : (sm_Ic f).drop i = r :: rest) {ls st : List Value} {D : sm_D} {M : sm_M} {v : ρ} (h : sm_st sh sa cal (sm_Ic f) zr ret nx (r :: rest) ls st D M = some v) (hv : gd v) : sm_WJ TT cls sa sh f d (sm_pc r) ls st D M R := by
  obtain ⟨hri, hrest⟩ := sm_code_at hr
  obtain ⟨hok, hsq⟩ := V.row hf hri
  have hown : nm (sm_Io f) = (sm_Iy f).cls := (V.2.2.2.2.2.2.1 kx f hf).2.2.1
  have nxt : ∀ (ls st : List Value) (D : sm_D) (M : sm_M), nx rest ls st D M = some v → sm_WJ TT cls sa sh f d (sm_pc r + sm_ln r) ls st D M R := by
    intro ls st D M h
    cases hc : rest with
    | nil => rw [hc, hnil] at h; cases h
    | cons q t =>
      rw [hc] at h hrest
      have hq : (sm_Ic f)[i + 1]? = some q := (sm_code_at hrest.symm).1
      rw [← sm_seq_at hsq hri hq]
      exact hnx (i + 1) q t ls st D M v hrest.symm h hv
  have jmp : ∀ (t : Nat) (off : Int) (ls st : List Value) (D : sm_D) (M : sm_M), sm_tg (sm_Ic f) (sm_pc r) off t = true → ∃ tgt : Nat, (sm_pc r : Int) + off = (tgt : Int) ∧ (nx ((sm_Ic f).drop t) ls st D M = some v → sm_WJ TT cls sa sh f d tgt ls st D M R) := by
    intro t off ls st D M h1
    obtain ⟨q, h3, h4⟩ := sm_tg_at h1
    exact ⟨sm_pc q, h4, fun h2 => hnx t q _ ls st D M v h3 (by rw [← h3]; exact h2) hv⟩
  obtain ⟨pc, ins, ln, fl, vv, x, y, z, w, ts⟩ := r
  cases ins with
  | iconst n =>
    replace h : nx rest ls (.int vv :: st) D M = some v := h
    replace hok : (decide (decode (sm_Ib f) pc = .ok (.iconst n, ln)) && decide (ln = 1 ∧ Int32.ofInt n = vv)) = true := hok
    simp only [Bool.and_eq_true, decide_eq_true_eq] at hok
    obtain ⟨hd, rfl, he⟩ := hok
    have K := nxt _ _ _ _ h
    intro p l e s m args below meth c G A C H locs lsr hP hD hS hL
    exact lv_iconst C.1 C.2.1 hd he (K p l e s m args below meth c G A C H locs lsr hP hD hS hL)
  | bipush n =>
    replace h : nx rest ls (.int vv :: st) D M = some v := h
    replace hok : (decide (decode (sm_Ib f) pc = .ok (.bipush n, ln)) && decide (ln = 2 ∧ (Int8.ofInt n).toInt32 = vv)) = true := hok
    simp only [Bool.and_eq_true, decide_eq_true_eq] at hok
    obtain ⟨hd, rfl, he⟩ := hok
    have K := nxt _ _ _ _ h
    intro p l e s m args below meth c G A C H locs lsr hP hD hS hL
    exact lv_bipush C.1 C.2.1 hd he (K p l e s m args below meth c G A C H locs lsr hP hD hS hL)
  | sipush n =>
    replace h : nx rest ls (.int vv :: st) D M = some v := h
    replace hok : (decide (decode (sm_Ib f) pc = .ok (.sipush n, ln)) && decide (ln = 3 ∧ (Int16.ofInt n).toInt32 = vv)) = true := hok
    simp only [Bool.and_eq_true, decide_eq_true_eq] at hok
    obtain ⟨hd, rfl, he⟩ := hok
    have K := nxt _ _ _ _ h
    intro p l e s m args below meth c G A C H locs lsr hP hD hS hL
    exact lv_sipush C.1 C.2.1 hd he (K p l e s m args below meth c G A C H locs lsr hP hD hS hL)
  | iload_n k =>
    replace h : sm_lo ls x (fun v => match v with
      | .int _ => nx rest ls (v :: st) D M
      | _ => none) = some v := h
    replace hok : (decide (decode (sm_Ib f) pc = .ok (.iload_n k, ln)) && decide (ln = 1 ∧ k.val = x)) = true := hok
    simp only [Bool.and_eq_true, decide_eq_true_eq] at hok
    obtain ⟨hd, rfl, rfl⟩ := hok
    rcases sm_lo_inv h with ⟨a, h1, h2⟩ | ⟨q, h1, h2⟩
    · have K := nxt _ _ _ _ h2
      intro p l e s m args below meth c G A C H locs lsr hP hD hS hL
      exact lv_iload_n C.1 C.2.1 hd rfl (sm_L_int hL h1) (K p l e s m args below meth c G A C H locs lsr hP hD hS hL)
    · cases h2
  | iload k =>
    replace h : sm_lo ls x (fun v => match v with
      | .int _ => nx rest ls (v :: st) D M
      | _ => none) = some v := h
    replace hok : (decide (decode (sm_Ib f) pc = .ok (.iload k, ln)) && decide (ln = 2 ∧ k = x)) = true := hok
    simp only [Bool.and_eq_true, decide_eq_true_eq] at hok
    obtain ⟨hd, rfl, rfl⟩ := hok
    rcases sm_lo_inv h with ⟨a, h1, h2⟩ | ⟨q, h1, h2⟩
    · have K := nxt _ _ _ _ h2
      intro p l e s m args below meth c G A C H locs lsr hP hD hS hL
      exact lv_iload C.1 C.2.1 hd  (sm_L_int hL h1) (K p l e s m args below meth c G A C H locs lsr hP hD hS hL)
    · cases h2
  | aload_n k =>
    replace h : sm_lo ls x (fun v => match v with
      | .ref _ => nx rest ls (v :: st) D M
      | _ => none) = some v := h
    replace hok : (decide (decode (sm_Ib f) pc = .ok (.aload_n k, ln)) && decide (ln = 1 ∧ k.val = x)) = true := hok
    simp only [Bool.and_eq_true, decide_eq_true_eq] at hok
    obtain ⟨hd, rfl, rfl⟩ := hok
    rcases sm_lo_inv h with ⟨a, h1, h2⟩ | ⟨q, h1, h2⟩
    · cases h2
    · have K := nxt _ _ _ _ h2
      intro p l e s m args below meth c G A C H locs lsr hP hD hS hL
      exact lv_aload_n C.1 C.2.1 hd rfl (sm_L_ref hL h1) (K p l e s m args below meth c G A C H locs lsr hP hD hS hL)
  | aload k =>
    replace h : sm_lo ls x (fun v => match v with
      | .ref _ => nx rest ls (v :: st) D M
      | _ => none) = some v := h
    replace hok : (decide (decode (sm_Ib f) pc = .ok (.aload k, ln)) && decide (ln = 2 ∧ k = x)) = true := hok
    simp only [Bool.and_eq_true, decide_eq_true_eq] at hok
    obtain ⟨hd, rfl, rfl⟩ := hok
    rcases sm_lo_inv h with ⟨a, h1, h2⟩ | ⟨q, h1, h2⟩
    · cases h2
    · have K := nxt _ _ _ _ h2
      intro p l e s m args below meth c G A C H locs lsr hP hD hS hL
      exact lv_aload C.1 C.2.1 hd  (sm_L_ref hL h1) (K p l e s m args below meth c G A C H locs lsr hP hD hS hL)
  | istore_n k =>
    replace h : sm_p1 st (fun a st => nx rest (ls.set x (.int a)) st D M) = some v := h
    replace hok : (decide (decode (sm_Ib f) pc = .ok (.istore_n k, ln)) && decide (ln = 1 ∧ k.val = x ∧ x < sm_Il f)) = true := hok
    simp only [Bool.and_eq_true, decide_eq_true_eq] at hok
    obtain ⟨hd, rfl, rfl, hn⟩ := hok
    obtain ⟨a, t, rfl, h⟩ := sm_p1_inv h
    have K := nxt _ _ _ _ h
    intro p l e s m args below meth c G A C H locs lsr hP hD hS hL
    exact lv_istore_n (x := a) C.1 C.2.1 hd rfl (sm_L_has hL) hn rfl (fun ls' h' => K p l e s m args below meth c G A C H locs ls' hP hD hS (sm_L_set (v := .int a) hL rfl h'))
  | astore_n k =>
    replace h : sm_pr st (fun p st => nx rest (ls.set x (.ref (p + 1))) st D M) = some v := h
    replace hok : (decide (decode (sm_Ib f) pc = .ok (.astore_n k, ln)) && decide (ln = 1 ∧ k.val = x ∧ x < sm_Il f)) = true := hok
    simp only [Bool.and_eq_true, decide_eq_true_eq] at hok
    obtain ⟨hd, rfl, rfl, hn⟩ := hok
    obtain ⟨q, t, rfl, h⟩ := sm_pr_inv h
    have K := nxt _ _ _ _ h
    intro p l e s m args below meth c G A C H locs lsr hP hD hS hL
    exact lv_astore_n (x := sm_ad G (q + 1)) C.1 C.2.1 hd rfl (sm_L_has hL) hn rfl (fun ls' h' => K p l e s m args below meth c G A C H locs ls' hP hD hS (sm_L_set (v := .ref (q + 1)) hL rfl h'))
  | istore k =>
    replace h : sm_p1 st (fun a st => nx rest (ls.set x (.int a)) st D M) = some v := h
    replace hok : (decide (decode (sm_Ib f) pc = .ok (.istore k, ln)) && decide (ln = 2 ∧ k = x ∧ x < sm_Il f)) = true := hok
    simp only [Bool.and_eq_true, decide_eq_true_eq] at hok
    obtain ⟨hd, rfl, rfl, hn⟩ := hok
    obtain ⟨a, t, rfl, h⟩ := sm_p1_inv h
    have K := nxt _ _ _ _ h
    intro p l e s m args below meth c G A C H locs lsr hP hD hS hL
    exact lv_istore (x := a) C.1 C.2.1 hd  (sm_L_has hL) hn rfl (fun ls' h' => K p l e s m args below meth c G A C H locs ls' hP hD hS (sm_L_set (v := .int a) hL rfl h'))
  | astore k =>
    replace h : sm_pr st (fun p st => nx rest (ls.set x (.ref (p + 1))) st D M) = some v := h
    replace hok : (decide (decode (sm_Ib f) pc = .ok (.astore k, ln)) && decide (ln = 2 ∧ k = x ∧ x < sm_Il f)) = true := hok
    simp only [Bool.and_eq_true, decide_eq_true_eq] at hok
    obtain ⟨hd, rfl, rfl, hn⟩ := hok
    obtain ⟨q, t, rfl, h⟩ := sm_pr_inv h
    have K := nxt _ _ _ _ h
    intro p l e s m args below meth c G A C H locs lsr hP hD hS hL
    exact lv_astore (x := sm_ad G (q + 1)) C.1 C.2.1 hd  (sm_L_has hL) hn rfl (fun ls' h' => K p l e s m args below meth c G A C H locs ls' hP hD hS (sm_L_set (v := .ref (q + 1)) hL rfl h'))
  | iinc k n =>
    replace h : sm_lo ls x (fun w => match w with
      | .int a => nx rest (ls.set x (.int (a + vv))) st D M
      | _ => none) = some v := h
    replace hok : (decide (decode (sm_Ib f) pc = .ok (.iinc k n, ln)) && decide (ln = 3 ∧ k = x ∧ Int32.ofInt n = vv ∧ x < sm_Il f)) = true := hok
    simp only [Bool.and_eq_true, decide_eq_true_eq] at hok
    obtain ⟨hd, rfl, rfl, rfl, hn⟩ := hok
    rcases sm_lo_inv h with ⟨a, h1, h2⟩ | ⟨q, h1, h2⟩
    · have K := nxt _ _ _ _ h2
      intro p l e s m args below meth c G A C H locs lsr hP hD hS hL
      obtain ⟨j, hj⟩ := List.getElem?_of_mem (sm_prs_in (ad := sm_ad G) h1 rfl)
      exact lv_iinc (x := a) C.1 C.2.1 hd (sm_L_has hL) hj rfl hn rfl (fun ls' h' => K p l e s m args below meth c G A C H locs ls' hP hD hS (sm_L_set (v := .int (a + Int32.ofInt n)) hL rfl h'))
    · cases h2
  | iadd =>
    replace h : sm_p2 st (fun a b st => nx rest ls (.int (a + b) :: st) D M) = some v := h
    replace hok : (decide (decode (sm_Ib f) pc = .ok (.iadd, ln)) && decide (ln = 1)) = true := hok
    simp only [Bool.and_eq_true, decide_eq_true_eq] at hok
    obtain ⟨hd, rfl⟩ := hok
    obtain ⟨a, b, t, rfl, h⟩ := sm_p2_inv h
    have K := nxt _ _ _ _ h
    intro p l e s m args below meth c G A C H locs lsr hP hD hS hL
    exact lv_iadd C.1 C.2.1 hd (K p l e s m args below meth c G A C H locs lsr hP hD hS hL)
  | isub =>
    replace h : sm_p2 st (fun a b st => nx rest ls (.int (a - b) :: st) D M) = some v := h
    replace hok : (decide (decode (sm_Ib f) pc = .ok (.isub, ln)) && decide (ln = 1)) = true := hok
    simp only [Bool.and_eq_true, decide_eq_true_eq] at hok
    obtain ⟨hd, rfl⟩ := hok
    obtain ⟨a, b, t, rfl, h⟩ := sm_p2_inv h
    have K := nxt _ _ _ _ h
    intro p l e s m args below meth c G A C H locs lsr hP hD hS hL
    exact lv_isub C.1 C.2.1 hd (K p l e s m args below meth c G A C H locs lsr hP hD hS hL)
  | imul =>
    replace h : sm_p2 st (fun a b st => nx rest ls (.int (a * b) :: st) D M) = some v := h
    replace hok : (decide (decode (sm_Ib f) pc = .ok (.imul, ln)) && decide (ln = 1)) = true := hok
    simp only [Bool.and_eq_true, decide_eq_true_eq] at hok
    obtain ⟨hd, rfl⟩ := hok
    obtain ⟨a, b, t, rfl, h⟩ := sm_p2_inv h
    have K := nxt _ _ _ _ h
    intro p l e s m args below meth c G A C H locs lsr hP hD hS hL
    exact lv_imul C.1 C.2.1 hd (K p l e s m args below meth c G A C H locs lsr hP hD hS hL)
  | iand =>
    replace h : sm_p2 st (fun a b st => nx rest ls (.int (a &&& b) :: st) D M) = some v := h
    replace hok : (decide (decode (sm_Ib f) pc = .ok (.iand, ln)) && decide (ln = 1)) = true := hok
    simp only [Bool.and_eq_true, decide_eq_true_eq] at hok
    obtain ⟨hd, rfl⟩ := hok
    obtain ⟨a, b, t, rfl, h⟩ := sm_p2_inv h
    have K := nxt _ _ _ _ h
    intro p l e s m args below meth c G A C H locs lsr hP hD hS hL
    exact lv_iand C.1 C.2.1 hd (K p l e s m args below meth c G A C H locs lsr hP hD hS hL)
  | ixor =>
    replace h : sm_p2 st (fun a b st => nx rest ls (.int (a ^^^ b) :: st) D M) = some v := h
    replace hok : (decide (decode (sm_Ib f) pc = .ok (.ixor, ln)) && decide (ln = 1)) = true := hok
    simp only [Bool.and_eq_true, decide_eq_true_eq] at hok
    obtain ⟨hd, rfl⟩ := hok
    obtain ⟨a, b, t, rfl, h⟩ := sm_p2_inv h
    have K := nxt _ _ _ _ h
    intro p l e s m args below meth c G A C H locs lsr hP hD hS hL
    exact lv_ixor C.1 C.2.1 hd (K p l e s m args below meth c G A C H locs lsr hP hD hS hL)
  | iushr =>
    replace h : sm_p2 st (fun a b st => nx rest ls (.int ((a.toUInt32 >>> (b.toUInt32 &&& Int32.toUInt32 31)).toInt32) :: st) D M) = some v := h
    replace hok : (decide (decode (sm_Ib f) pc = .ok (.iushr, ln)) && decide (ln = 1)) = true := hok
    simp only [Bool.and_eq_true, decide_eq_true_eq] at hok
    obtain ⟨hd, rfl⟩ := hok
    obtain ⟨a, b, t, rfl, h⟩ := sm_p2_inv h
    have K := nxt _ _ _ _ h
    intro p l e s m args below meth c G A C H locs lsr hP hD hS hL
    exact lv_iushr C.1 C.2.1 hd rfl (K p l e s m args below meth c G A C H locs lsr hP hD hS hL)
  | irem =>
    replace h : sm_p2 st (fun a b st => sm_nz b (nx rest ls (.int (a - a / b * b) :: st) D M)) = some v := h
    replace hok : (decide (decode (sm_Ib f) pc = .ok (.irem, ln)) && decide (ln = 1)) = true := hok
    simp only [Bool.and_eq_true, decide_eq_true_eq] at hok
    obtain ⟨hd, rfl⟩ := hok
    obtain ⟨a, b, t, rfl, h⟩ := sm_p2_inv h
    obtain ⟨hb, h⟩ := sm_nz_inv h
    have K := nxt _ _ _ _ h
    intro p l e s m args below meth c G A C H locs lsr hP hD hS hL
    exact lv_irem C.1 C.2.1 hd hb (K p l e s m args below meth c G A C H locs lsr hP hD hS hL)
  | dup =>
    replace h : sm_v1 st (fun w st => nx rest ls (w :: w :: st) D M) = some v := h
    replace hok : (decide (decode (sm_Ib f) pc = .ok (.dup, ln)) && decide (ln = 1)) = true := hok
    simp only [Bool.and_eq_true, decide_eq_true_eq] at hok
    obtain ⟨hd, rfl⟩ := hok
    obtain ⟨w, t0, rfl, hc0, h⟩ := sm_v1_inv h
    have K := nxt _ _ _ _ h
    intro p l e s m args below meth c G A C H locs lsr hP hD hS hL
    exact lv_dup C.1 C.2.1 hd (sm_c1_cat hc0) (K p l e s m args below meth c G A C H locs lsr hP hD hS hL)
  | pop =>
    replace h : sm_v1 st (fun _ st => nx rest ls (st) D M) = some v := h
    replace hok : (decide (decode (sm_Ib f) pc = .ok (.pop, ln)) && decide (ln = 1)) = true := hok
    simp only [Bool.and_eq_true, decide_eq_true_eq] at hok
    obtain ⟨hd, rfl⟩ := hok
    obtain ⟨w, t0, rfl, hc0, h⟩ := sm_v1_inv h
    have K := nxt _ _ _ _ h
    intro p l e s m args below meth c G A C H locs lsr hP hD hS hL
    exact lv_pop C.1 C.2.1 hd (sm_c1_cat hc0) (K p l e s m args below meth c G A C H locs lsr hP hD hS hL)
  | dup_x1 =>
    replace h : sm_v1 st (fun w st => sm_v1 st (fun u st => nx rest ls (w :: u :: w :: st) D M)) = some v := h
    replace hok : (decide (decode (sm_Ib f) pc = .ok (.dup_x1, ln)) && decide (ln = 1)) = true := hok
    simp only [Bool.and_eq_true, decide_eq_true_eq] at hok
    obtain ⟨hd, rfl⟩ := hok
    obtain ⟨w, t0, rfl, hc0, h⟩ := sm_v1_inv h
    obtain ⟨u, t1, rfl, hc1, h⟩ := sm_v1_inv h
    have K := nxt _ _ _ _ h
    intro p l e s m args below meth c G A C H locs lsr hP hD hS hL
    exact lv_dup_x1 C.1 C.2.1 hd (sm_c1_cat hc0) (sm_c1_cat hc1) (K p l e s m args below meth c G A C H locs lsr hP hD hS hL)
  | dup2 =>
    replace h : sm_v1 st (fun w st => sm_v1 st (fun u st => nx rest ls (w :: u :: w :: u :: st) D M)) = some v := h
    replace hok : (decide (decode (sm_Ib f) pc = .ok (.dup2, ln)) && decide (ln = 1)) = true := hok
    simp only [Bool.and_eq_true, decide_eq_true_eq] at hok
    obtain ⟨hd, rfl⟩ := hok
    obtain ⟨w, t0, rfl, hc0, h⟩ := sm_v1_inv h
    obtain ⟨u, t1, rfl, hc1, h⟩ := sm_v1_inv h
    have K := nxt _ _ _ _ h
    intro p l e s m args below meth c G A C H locs lsr hP hD hS hL
    exact lv_dup2_11 C.1 C.2.1 hd (sm_c1_cat hc0) (sm_c1_cat hc1) (K p l e s m args below meth c G A C H locs lsr hP hD hS hL)
  | dup_x2 =>
    replace h : sm_v1 st (fun w st => sm_v1 st (fun u st => sm_v1 st (fun k st => nx rest ls (w :: u :: k :: w :: st) D M))) = some v := h
    replace hok : (decide (decode (sm_Ib f) pc = .ok (.dup_x2, ln)) && decide (ln = 1)) = true := hok
    simp only [Bool.and_eq_true, decide_eq_true_eq] at hok
    obtain ⟨hd, rfl⟩ := hok
    obtain ⟨w, t0, rfl, hc0, h⟩ := sm_v1_inv h
    obtain ⟨u, t1, rfl, hc1, h⟩ := sm_v1_inv h
    obtain ⟨k, t2, rfl, hc2, h⟩ := sm_v1_inv h
    have K := nxt _ _ _ _ h
    intro p l e s m args below meth c G A C H locs lsr hP hD hS hL
    exact lv_dup_x2 C.1 C.2.1 hd (sm_c1_cat hc0) (sm_c1_cat hc1) (sm_c1_cat hc2) (K p l e s m args below meth c G A C H locs lsr hP hD hS hL)
  | ifCond cd off =>
    replace h : sm_p1 st (fun a st => sm_cn cd a 0 (nx ((sm_Ic f).drop x) ls st D M) (nx rest ls st D M)) = some v := h
    replace hok : (decide (decode (sm_Ib f) pc = .ok (.ifCond cd off, ln)) && (decide (ln = 3) && sm_tg (sm_Ic f) pc off x)) = true := hok
    simp only [Bool.and_eq_true, decide_eq_true_eq] at hok
    obtain ⟨hd, rfl, ht⟩ := hok
    obtain ⟨a, t, rfl, h⟩ := sm_p1_inv h
    obtain ⟨tgt, htg, hj⟩ := jmp x off ls t D M ht
    cases cd with
    | eq =>
      obtain ⟨h1, h2⟩ := sm_cn_eq h
      intro p l e s m args below meth c G A C H locs lsr hP hD hS hL
      exact lv_if_eq C.1 C.2.1 hd htg (fun hc => hj (h1 hc) p l e s m args below meth c G A C H locs lsr hP hD hS hL) (fun hc => nxt _ _ _ _ (h2 hc) p l e s m args below meth c G A C H locs lsr hP hD hS hL)
    | ne =>
      obtain ⟨h1, h2⟩ := sm_cn_ne h
      intro p l e s m args below meth c G A C H locs lsr hP hD hS hL
      exact lv_if_ne C.1 C.2.1 hd htg (fun hc => hj (h1 hc) p l e s m args below meth c G A C H locs lsr hP hD hS hL) (fun hc => nxt _ _ _ _ (h2 hc) p l e s m args below meth c G A C H locs lsr hP hD hS hL)
    | lt =>
      obtain ⟨h1, h2⟩ := sm_cn_lt h
      intro p l e s m args below meth c G A C H locs lsr hP hD hS hL
      exact lv_if_lt C.1 C.2.1 hd htg (fun hc => hj (h1 hc) p l e s m args below meth c G A C H locs lsr hP hD hS hL) (fun hc => nxt _ _ _ _ (h2 hc) p l e s m args below meth c G A C H locs lsr hP hD hS hL)
    | ge =>
      obtain ⟨h1, h2⟩ := sm_cn_ge h
      intro p l e s m args below meth c G A C H locs lsr hP hD hS hL
      exact lv_if_ge C.1 C.2.1 hd htg (fun hc => hj (h1 hc) p l e s m args below meth c G A C H locs lsr hP hD hS hL) (fun hc => nxt _ _ _ _ (h2 hc) p l e s m args below meth c G A C H locs lsr hP hD hS hL)
    | gt =>
      obtain ⟨h1, h2⟩ := sm_cn_gt h
      intro p l e s m args below meth c G A C H locs lsr hP hD hS hL
      exact lv_if_gt C.1 C.2.1 hd htg (fun hc => hj (h1 hc) p l e s m args below meth c G A C H locs lsr hP hD hS hL) (fun hc => nxt _ _ _ _ (h2 hc) p l e s m args below meth c G A C H locs lsr hP hD hS hL)
    | le =>
      obtain ⟨h1, h2⟩ := sm_cn_le h
      intro p l e s m args below meth c G A C H locs lsr hP hD hS hL
      exact lv_if_le C.1 C.2.1 hd htg (fun hc => hj (h1 hc) p l e s m args below meth c G A C H locs lsr hP hD hS hL) (fun hc => nxt _ _ _ _ (h2 hc) p l e s m args below meth c G A C H locs lsr hP hD hS hL)
  | if_icmp cd off =>
    replace h : sm_p2 st (fun a b st => sm_cn cd a b (nx ((sm_Ic f).drop x) ls st D M) (nx rest ls st D M)) = some v := h
    replace hok : (decide (decode (sm_Ib f) pc = .ok (.if_icmp cd off, ln)) && (decide (ln = 3) && sm_tg (sm_Ic f) pc off x)) = true := hok
    simp only [Bool.and_eq_true, decide_eq_true_eq] at hok
    obtain ⟨hd, rfl, ht⟩ := hok
    obtain ⟨a, b, t, rfl, h⟩ := sm_p2_inv h
    obtain ⟨tgt, htg, hj⟩ := jmp x off ls t D M ht
    cases cd with
    | eq =>
      obtain ⟨h1, h2⟩ := sm_cn_eq h
      intro p l e s m args below meth c G A C H locs lsr hP hD hS hL
      exact lv_icmp_eq C.1 C.2.1 hd htg (fun hc => hj (h1 hc) p l e s m args below meth c G A C H locs lsr hP hD hS hL) (fun hc => nxt _ _ _ _ (h2 hc) p l e s m args below meth c G A C H locs lsr hP hD hS hL)
    | ne =>
      obtain ⟨h1, h2⟩ := sm_cn_ne h
      intro p l e s m args below meth c G A C H locs lsr hP hD hS hL
      exact lv_icmp_ne C.1 C.2.1 hd htg (fun hc => hj (h1 hc) p l e s m args below meth c G A C H locs lsr hP hD hS hL) (fun hc => nxt _ _ _ _ (h2 hc) p l e s m args below meth c G A C H locs lsr hP hD hS hL)
    | lt =>
      obtain ⟨h1, h2⟩ := sm_cn_lt h
      intro p l e s m args below meth c G A C H locs lsr hP hD hS hL
      exact lv_icmp_lt C.1 C.2.1 hd htg (fun hc => hj (h1 hc) p l e s m args below meth c G A C H locs lsr hP hD hS hL) (fun hc => nxt _ _ _ _ (h2 hc) p l e s m args below meth c G A C H locs lsr hP hD hS hL)
    | ge =>
      obtain ⟨h1, h2⟩ := sm_cn_ge h
      intro p l e s m args below meth c G A C H locs lsr hP hD hS hL
      exact lv_icmp_ge C.1 C.2.1 hd htg (fun hc => hj (h1 hc) p l e s m args below meth c G A C H locs lsr hP hD hS hL) (fun hc => nxt _ _ _ _ (h2 hc) p l e s m args below meth c G A C H locs lsr hP hD hS hL)
    | gt =>
      obtain ⟨h1, h2⟩ := sm_cn_gt h
      intro p l e s m args below meth c G A C H locs lsr hP hD hS hL
      exact lv_icmp_gt C.1 C.2.1 hd htg (fun hc => hj (h1 hc) p l e s m args below meth c G A C H locs lsr hP hD hS hL) (fun hc => nxt _ _ _ _ (h2 hc) p l e s m args below meth c G A C H locs lsr hP hD hS hL)
    | le =>
      obtain ⟨h1, h2⟩ := sm_cn_le h
      intro p l e s m args below meth c G A C H locs lsr hP hD hS hL
      exact lv_icmp_le C.1 C.2.1 hd htg (fun hc => hj (h1 hc) p l e s m args below meth c G A C H locs lsr hP hD hS hL) (fun hc => nxt _ _ _ _ (h2 hc) p l e s m args below meth c G A C H locs lsr hP hD hS hL)
  | goto off =>
    replace h : nx ((sm_Ic f).drop x) ls st D M = some v := h
    replace hok : (decide (decode (sm_Ib f) pc = .ok (.goto off, ln)) && (decide (ln = 3) && sm_tg (sm_Ic f) pc off x)) = true := hok
    simp only [Bool.and_eq_true, decide_eq_true_eq] at hok
    obtain ⟨hd, rfl, ht⟩ := hok
    obtain ⟨tgt, htg, hj⟩ := jmp x off ls st D M ht
    intro p l e s m args below meth c G A C H locs lsr hP hD hS hL
    exact lv_goto C.1 C.2.1 hd htg (hj h p l e s m args below meth c G A C H locs lsr hP hD hS hL)
  | tableswitch dflt lo hi offs =>
    replace h : sm_p1 st (fun a st => sm_sw a x (fun t => nx ((sm_Ic f).drop t) ls st D M) ts) = some v := h
    replace hok : (decide (decode (sm_Ib f) pc = .ok (.tableswitch dflt lo hi offs, ln)) && (decide (hi + 1 = lo + (offs.size : Int)) && sm_tg (sm_Ic f) pc dflt x && sm_okts (sm_Ic f) pc lo offs.toList ts)) = true := hok
    simp only [Bool.and_eq_true, decide_eq_true_eq] at hok
    obtain ⟨hd, ⟨hh, ht⟩, hts⟩ := hok
    obtain ⟨a, t, rfl, h⟩ := sm_p1_inv h
    obtain ⟨hlen, hat⟩ := sm_okts_at hts
    have hlen : offs.size = ts.length := by rw [← hlen]; simp
    rcases sm_sw_inv h with ⟨n, t', h1, -, h2⟩ | ⟨h1, h2⟩
    · obtain ⟨ha, off, ho, hg⟩ := hat n a t' h1
      obtain ⟨tgt, htg, hj⟩ := jmp t' off ls t D M hg
      have hn : n < ts.length := (List.getElem?_eq_some_iff.mp h1).1
      intro p l e s m args below meth c G A C H locs lsr hP hD hS hL
      exact lv_tableIn C.1 C.2.1 hd (by omega) (by omega) (by rw [ha, show (lo + (n : Int) - lo).toNat = n by omega, ← Array.getElem?_toList]; exact ho) htg (hj h2 p l e s m args below meth c G A C H locs lsr hP hD hS hL)
    · obtain ⟨tgt, htg, hj⟩ := jmp x dflt ls t D M ht
      have hout : a.toInt < lo ∨ hi < a.toInt := by
        by_cases h3 : a.toInt < lo
        · exact Or.inl h3
        · refine Or.inr (Int.not_le.mp fun h4 => ?_)
          have hn : (a.toInt - lo).toNat < ts.length := by omega
          obtain ⟨ha, -⟩ := hat (a.toInt - lo).toNat ts[(a.toInt - lo).toNat].1 ts[(a.toInt - lo).toNat].2 (List.getElem?_eq_getElem hn)
          exact h1 _ (List.getElem_mem hn) (Int32.toInt_inj.mp (by rw [ha]; omega))
      intro p l e s m args below meth c G A C H locs lsr hP hD hS hL
      exact lv_tableOut C.1 C.2.1 hd hout htg (hj h2 p l e s m args below meth c G A C H locs lsr hP hD hS hL)
  | lookupswitch dflt ps =>
    replace h : sm_p1 st (fun a st => sm_sw a x (fun t => nx ((sm_Ic f).drop t) ls st D M) ts) = some v := h
    replace hok : (decide (decode (sm_Ib f) pc = .ok (.lookupswitch dflt ps, ln)) && ((ps.toList.zip (ps.toList.drop 1)).all (fun (a, next) => a.1 < next.1) && sm_tg (sm_Ic f) pc dflt x && sm_oklk (sm_Ic f) pc ps.toList ts)) = true := hok
    rw [Bool.and_eq_true, Bool.and_eq_true, Bool.and_eq_true] at hok
    obtain ⟨hd, ⟨hso, ht⟩, hlk⟩ := hok
    have hd := of_decide_eq_true hd
    obtain ⟨a, t, rfl, h⟩ := sm_p1_inv h
    obtain ⟨t', h1, h2⟩ := sm_oklk_at ht hlk h
    obtain ⟨tgt, htg, hj⟩ := jmp t' _ ls t D M h1
    intro p l e s m args below meth c G A C H locs lsr hP hD hS hL
    exact lv_lookup C.1 C.2.1 hd hso rfl htg (hj h2 p l e s m args below meth c G A C H locs lsr hP hD hS hL)
  | getfield ix =>
    replace h : sm_get sh x y st D M (fun w st => nx rest ls (w :: st) D M) = some v := h
    replace hok : (decide (decode (sm_Ib f) pc = .ok (.getfield ix, ln)) && decide (ln = 3 ∧ (sm_Io f, ix, x, y) ∈ LF)) = true := hok
    simp only [Bool.and_eq_true, decide_eq_true_eq] at hok
    obtain ⟨hd, rfl, hl⟩ := hok
    obtain ⟨j, fs, t, a, b, w, rfl, hj, hk, h, he⟩ := sm_get_inv h
    obtain ⟨C0, T0, N0, hc, hN, hlk, hT1⟩ := V.2.2.1 _ _ _ _ hl
    rw [hown] at hlk
    have K := nxt _ _ _ _ h
    intro p l e s m args below meth c G A C H locs lsr hP hD hS hL
    refine va_get (ws := sm_ws sh G D M) (fs := fs.mapIdx (fun k t => sm_fv (sm_ad G) D (M (j + 1)) k t)) (v := sm_cz (sm_ad G) w) C.1 C.2.1 C.2.2.2.2.2.1 (V.2.1 x C0 T0 N0 hc).1 C.2.2.2.2.2.2.1 C.2.2.2.2.2.2.2.1 hP j (sm_ws_at hj) hc y hN (C.2.2.2.2.2.1 _ hlk) (fun q hq => by rw [hT1] at hq; exact hq) ?_ hd (K p l e s m args below meth c G A C H locs lsr hP hD hS hL)
    rw [List.getElem?_mapIdx, hk]
    show some (sm_fv (sm_ad G) D (M (j + 1)) y (a, b)) = _
    rw [he]
  | putfield ix =>
    replace h : sm_put sh x y st D M (fun st D M => nx rest ls st D M) = some v := h
    replace hok : (decide (decode (sm_Ib f) pc = .ok (.putfield ix, ln)) && decide (ln = 3 ∧ (sm_Io f, ix, x, y) ∈ LP)) = true := hok
    simp only [Bool.and_eq_true, decide_eq_true_eq] at hok
    obtain ⟨hd, rfl, hl⟩ := hok
    obtain ⟨hl, hfin⟩ := V.2.2.2.1 _ _ _ _ hl
    obtain ⟨C0, T0, N0, hc, hN, hlk, hT1⟩ := V.2.2.1 _ _ _ _ hl
    rw [hown] at hlk
    have hfin := hfin C0 T0 N0 hc
    obtain ⟨hin, ⟨ty, hty⟩, hnm⟩ := V.2.1 x C0 T0 N0 hc
    rcases sm_put_inv h with ⟨w, j, fs, t, a, b, rfl, hj, hk, ha, h⟩ | ⟨q, j, fs, t, b, rfl, hj, hk, hb, h⟩
    · obtain ⟨C1, T1, N1, hc1, hlen, hkd⟩ := V.2.2.2.2.2.2.2.2.1 j x fs hj
      cases hc.symm.trans hc1
      obtain ⟨hk0, hk3, -⟩ := hkd y a b hk
      have K := nxt _ _ _ _ h
      have hty' : ∃ tz : FieldType, parseFieldDescriptor (T0 y).2.2.1 = some tz ∧ narrow tz (.int w) = .int w ∧ fits tz (.int w) = true := by
        rcases ha with rfl | ⟨rfl, hw⟩
        · rw [hk0 rfl]
          exact ⟨.int, by decide +kernel, rfl, rfl⟩
        · rw [hk3 rfl]
          refine ⟨.boolean, by decide +kernel, ?_⟩
          rcases hw with rfl | rfl
          · exact ⟨by decide +kernel, by decide +kernel⟩
          · exact ⟨by decide +kernel, by decide +kernel⟩
      obtain ⟨tz, hz1, hz2, hz3⟩ := hty'
      intro p l e s m args below meth c G A C H locs lsr hP hD hS hL
      refine va_put (ws := sm_ws sh G D M) (fs := fs.mapIdx (fun k t => sm_fv (sm_ad G) D (M (j + 1)) k t)) (v := .int w) C.1 C.2.1 C.2.2.2.2.2.1 hin ty hty hnm C.2.2.2.2.2.2.1 C.2.2.2.2.2.2.2.1 hP hD hS j (sm_ws_at hj) hc y hN (C.2.2.2.2.2.1 _ hlk) (fun q hq => by rw [hT1] at hq; exact hq) hfin hz1 hz2 hz3 (by simpa [hlen] using hN) hd (fun H1 locs1 hP1 hD1 hS1 => ?_)
      have ew : (sm_ws sh G D M).set j (sm_ad G (j + 1), .inr (x, (fs.mapIdx (fun k t => sm_fv (sm_ad G) D (M (j + 1)) k t)).set y (.int w))) = sm_ws sh G D (sm_up M (j + 1) y w) := by
        rw [sm_fs_set hk (by rcases ha with e | ⟨e, -⟩ <;> simp [e])]
        exact sm_ws_up (h := (2, x, fs)) hj
      rw [ew] at hP1 hD1
      exact K p l e s m args below meth c G A C H1 locs1 lsr hP1 hD1 hS1 hL
    · obtain ⟨C1, T1, N1, hc1, hlen, hkd⟩ := V.2.2.2.2.2.2.2.2.1 j x fs hj
      cases hc.symm.trans hc1
      obtain ⟨-, -, hk2⟩ := hkd y 2 b hk
      obtain ⟨⟨C', hC'⟩, hu⟩ := hk2 rfl
      have K := nxt _ _ _ _ h
      intro p l e s m args below meth c G A C H locs lsr hP hD hS hL
      have hz : narrow (.object C') (sm_cz (sm_ad G) (.ref q)) = sm_cz (sm_ad G) (.ref q) ∧ fits (.object C') (sm_cz (sm_ad G) (.ref q)) = true := by
        cases q with
        | zero => exact ⟨rfl, rfl⟩
        | succ q => exact ⟨rfl, rfl⟩
      refine va_put (ws := sm_ws sh G D M) (fs := fs.mapIdx (fun k t => sm_fv (sm_ad G) D (M (j + 1)) k t)) (v := sm_cz (sm_ad G) (.ref q)) C.1 C.2.1 C.2.2.2.2.2.1 hin ty hty hnm C.2.2.2.2.2.2.1 C.2.2.2.2.2.2.2.1 hP hD hS j (sm_ws_at hj) hc y hN (C.2.2.2.2.2.1 _ hlk) (fun q hq => by rw [hT1] at hq; exact hq) hfin hC' hz.1 hz.2 (by simpa [hlen] using hN) hd (fun H1 locs1 hP1 hD1 hS1 => ?_)
      rw [sm_ws_setD hj hk hb hu V.2.2.2.2.2.2.2.2.2.1] at hP1 hD1
      exact K p l e s m args below meth c G A C H1 locs1 lsr hP1 hD1 hS1 hL
  | getstatic ix =>
    replace h : nx rest ls (.ref x :: st) D M = some v := h
    replace hok : (decide (decode (sm_Ib f) pc = .ok (.getstatic ix, ln)) && decide (ln = 3 ∧ (sm_Io f, ix, x) ∈ LS)) = true := hok
    simp only [Bool.and_eq_true, decide_eq_true_eq] at hok
    obtain ⟨hd, rfl, hl⟩ := hok
    obtain ⟨q, hq, hqx, hpos, hlk⟩ := V.2.2.2.2.2.2.2.1 _ _ _ hl
    rw [hown] at hlk
    have K := nxt _ _ _ _ h
    intro p l e s m args below meth c G A C H locs lsr hP hD hS hL
    have hst := (C.2.2.2.2.2.2.2.2.1 q hq).1
    have ez : sm_cz (sm_ad G) (.ref x) = .ref (sm_ad G q.1) := by
      rw [hqx]
      cases x with
      | zero => omega
      | succ x => rfl
    refine va_gets (v := .ref (sm_ad G q.1)) C.1 C.2.1 hst hS C.2.2.2.2.2.2.1 (C.2.2.2.2.2.1 _ hlk) (fun _ h9 => h9) hd ?_
    rw [← ez]
    exact K p l e s m args below meth c G A C H locs lsr hP hD hS hL
  | iaload =>
    replace h : sm_ald sh sa st M (fun w st => nx rest ls (.int w :: st) D M) = some v := h
    replace hok : (decide (decode (sm_Ib f) pc = .ok (.iaload, ln)) && decide (ln = 1)) = true := hok
    simp only [Bool.and_eq_true, decide_eq_true_eq] at hok
    obtain ⟨hd, rfl⟩ := hok
    obtain ⟨a, q, t, rfl, ⟨j, n, fs, rfl, hj, hin, h⟩ | ⟨vs, ⟨q0, hq0, rfl, rfl⟩, hin, h⟩⟩ := sm_ald_inv h
    · have K := nxt _ _ _ _ h
      intro p l e s m args below meth c G A C H locs lsr hP hD hS hL
      exact va_iald (ws := sm_ws sh G D M) (f := M (j + 1)) C.1 C.2.1 C.2.2.2.2.2.2.2.1 hP j 0 (sm_ws_at hj) rfl hin hd (K p l e s m args below meth c G A C H locs lsr hP hD hS hL)
    · have K := nxt _ _ _ _ h
      have hpos := V.2.2.2.2.2.2.2.2.2.2 q0 hq0
      intro p l e s m args below meth c G A C H locs lsr hP hD hS hL
      have hst := (C.2.2.2.2.2.2.2.2.1 q0 hq0).2
      have ez : sm_cz (sm_ad G) (.ref q0.1) = .ref (sm_ad G q0.1) := by
        cases hx : q0.1 with
        | zero => omega
        | succ x => rfl
      show W p l e (sm_rm d) s m args below meth c H locs 0 0 _ (F0 m pc lsr (.int a :: sm_cz (sm_ad G) (.ref q0.1) :: t.map (sm_cz (sm_ad G))))
      rw [ez]
      exact va_ti C.1 C.2.1 hst hS hin rfl hd (K p l e s m args below meth c G A C H locs lsr hP hD hS hL)
  | baload =>
    replace h : sm_zld sh st M (fun w st => nx rest ls (.int w :: st) D M) = some v := h
    replace hok : (decide (decode (sm_Ib f) pc = .ok (.baload, ln)) && decide (ln = 1)) = true := hok
    simp only [Bool.and_eq_true, decide_eq_true_eq] at hok
    obtain ⟨hd, rfl⟩ := hok
    obtain ⟨a, j, n, fs, t, rfl, hj, hin, h⟩ := sm_zld_inv h
    have K := nxt _ _ _ _ h
    intro p l e s m args below meth c G A C H locs lsr hP hD hS hL
    exact va_zald (ws := sm_ws sh G D M) (f := M (j + 1)) C.1 C.2.1 C.2.2.2.2.2.2.2.1 hP j 1 (sm_ws_at hj) rfl hin hd (K p l e s m args below meth c G A C H locs lsr hP hD hS hL)
  | iastore =>
    replace h : sm_ast sh st M (fun st M => nx rest ls st D M) = some v := h
    replace hok : (decide (decode (sm_Ib f) pc = .ok (.iastore, ln)) && decide (ln = 1)) = true := hok
    simp only [Bool.and_eq_true, decide_eq_true_eq] at hok
    obtain ⟨hd, rfl⟩ := hok
    obtain ⟨w, a, j, n, fs, t, rfl, hj, hin, h⟩ := sm_ast_inv h
    have K := nxt _ _ _ _ h
    intro p l e s m args below meth c G A C H locs lsr hP hD hS hL
    refine va_iast (ws := sm_ws sh G D M) (f := M (j + 1)) C.1 C.2.1 C.2.2.2.2.2.2.2.1 hP hD hS j 0 (sm_ws_at hj) rfl hin hd (fun H1 locs1 hP1 hD1 hS1 => ?_)
    have ew := sm_ws_up (G := G) (D := D) (M := M) (j := a.toNatClampNeg) (v := w) hj
    exact K p l e s m args below meth c G A C H1 locs1 lsr (ew ▸ hP1) (ew ▸ hD1) hS1 hL
  | bastore =>
    replace h : sm_zst sh st M (fun st M => nx rest ls st D M) = some v := h
    replace hok : (decide (decode (sm_Ib f) pc = .ok (.bastore, ln)) && decide (ln = 1)) = true := hok
    simp only [Bool.and_eq_true, decide_eq_true_eq] at hok
    obtain ⟨hd, rfl⟩ := hok
    obtain ⟨w, a, j, n, fs, t, rfl, hj, hin, hw, h⟩ := sm_zst_inv h
    have K := nxt _ _ _ _ h
    have hn : vp_nar .boolean w = w := by rcases hw with rfl | rfl <;> decide +kernel
    intro p l e s m args below meth c G A C H locs lsr hP hD hS hL
    refine va_zast (ws := sm_ws sh G D M) (f := M (j + 1)) C.1 C.2.1 C.2.2.2.2.2.2.2.1 hP hD hS j 1 (sm_ws_at hj) rfl hin hd (fun H1 locs1 hP1 hD1 hS1 => ?_)
    rw [hn] at hP1 hD1
    have ew := sm_ws_up (G := G) (D := D) (M := M) (j := a.toNatClampNeg) (v := w) hj
    exact K p l e s m args below meth c G A C H1 locs1 lsr (ew ▸ hP1) (ew ▸ hD1) hS1 hL
  | arraylength =>
    replace h : sm_aln sh st (fun w st => nx rest ls (.int w :: st) D M) = some v := h
    replace hok : (decide (decode (sm_Ib f) pc = .ok (.arraylength, ln)) && decide (ln = 1)) = true := hok
    simp only [Bool.and_eq_true, decide_eq_true_eq] at hok
    obtain ⟨hd, rfl⟩ := hok
    obtain ⟨j, n, fs, t, rfl, hj, h⟩ := sm_aln_inv h
    have K := nxt _ _ _ _ h
    intro p l e s m args below meth c G A C H locs lsr hP hD hS hL
    exact va_alen (ws := sm_ws sh G D M) (x := (n, .inl (M (j + 1)))) C.1 C.2.1 C.2.2.2.2.2.2.2.1 hP j 0 (sm_ws_at hj) rfl rfl hd (K p l e s m args below meth c G A C H locs lsr hP hD hS hL)
  | invokevirtual ix =>
    replace h : sm_inv (sm_rcv sh y) cal x z w st D M (fun a st D M => match ts with
      | [] => nx rest ls st D M
      | _ :: _ => nx rest ls (.int a :: st) D M) = some v := h
    replace hok : (decide (decode (sm_Ib f) pc = .ok (.invokevirtual ix, ln)) && (decide (ln = 3 ∧ (sm_Io f, ix, x) ∈ LM) && (match P[x]? with
      | some g => decide (z = sm_In g + 1 ∧ y = sm_Io g ∧ (ts.isEmpty = (sm_Ir g).isNone))
      | none => false))) = true := hok
    simp only [Bool.and_eq_true, decide_eq_true_eq] at hok
    obtain ⟨hd, ⟨rfl, hl⟩, hg⟩ := hok
    obtain ⟨g, hgx, w1, w2, w3, T0, N0, hc⟩ := V.2.2.2.2.1 _ _ _ hl
    rw [hown] at w1
    rw [hgx] at hg
    have hg := of_decide_eq_true hg
    obtain ⟨hz1, hy1, hts⟩ := hg
    obtain ⟨g1, g2, -, g4, g5, g6, -⟩ := V.2.2.2.2.2.2.1 x g hgx
    obtain ⟨as, rs, a, D', M', rfl, hlen, hrs, hrc, hrv, hca, h9⟩ := sm_inv_inv h
    obtain ⟨j, fs, t, rfl, hj⟩ := sm_rcv_inv hrv
    obtain ⟨d', hd', hM⟩ := hcal x g _ D M _ hgx hca
    have K : sm_WJ TT cls sa sh f d (pc + 3) ls ((sm_rv (sm_Ir g) a).toList ++ rs) D' M' R := by
      cases hre : sm_Ir g with
      | none =>
        rw [hre] at hts
        cases ts with
        | nil => exact nxt _ _ _ _ h9
        | cons _ _ => cases hts
      | some _ =>
        rw [hre] at hts
        cases ts with
        | nil => cases hts
        | cons _ _ => exact nxt _ _ _ _ h9
    intro p l e s m args below meth c G A C H locs lsr hP hD hS hL
    have hA1 : ∀ q, va_A (sm_ws sh G D M) H.size q → A q := by
      intro q hq
      rcases hq with ⟨k, e', hq⟩ | hq
      · exact hD.2 k _ hq
      · exact C.2.2.2.2.2.2.2.2.2 q (Nat.le_trans hS.1 hq)
    have hgood : ∀ w ∈ wsV (sm_Iy f).cls ix (sm_Iy g).cls (sm_Iy g) (sm_wd TT g), w ∈ TT ∧ ((w.onTables && w.keeps) = true ∨ ∃ ty, w = .arrayClass ty) := by
      intro w hw
      have hin : w ∈ TT := by
        simp only [wsV, sm_wd, List.mem_append, List.mem_cons, List.not_mem_nil, or_false] at hw
        rcases hw with (rfl | rfl | rfl | rfl) | (rfl | hw)
        · exact w1
        · exact w2
        · exact w3
        · exact g2
        · exact g1
        · exact hw
      exact ⟨hin, good_of_word (V.1 w hin)⟩
    have hrec : ∃ cellB : Cell, H[sm_ad G (j + 1)]? = some cellB ∧ cellB.vm.isStatics = false ∧ s.vm.findClass (sm_Iy g).cls = some cellB.cls := va_recv C.2.2.2.2.2.2.2.1 hP (hy1 ▸ hc) (sm_ws_at hj)
    have hsum : ((rs.map (sm_cz (sm_ad G))).map fun v => v.category).sum ≤ 8 := Nat.le_trans (sm_cat_sum (fun w hw => Nat.le_of_eq (sm_c1_cat (hrc w hw)))) hrs
    have hrun := va_runV (l := l) (e := e) (below := below) (meth := meth) (locs := locs) (cells := 0) (slots := 0) (R := sm_rm d) (b := sm_ad G (j + 1)) (As := t.map (sm_cz (sm_ad G))) (rest := rs.map (sm_cz (sm_ad G))) (g := F0 m pc lsr ((((.ref (j + 1) :: t).reverse ++ rs)).map (sm_cz (sm_ad G)))) (H := H)
      ⟨C.1, C.2.1, C.2.2.1, C.2.2.2.2.2.2.1, C.2.2.2.2.2.1⟩ (hM l G H.size)
      (cwV (R := sm_rm d) (rm := sm_rm d') (mc := 0) (ms := 0) (sm_In g) C.2.2.2.2.2.1 hgood rfl rfl rfl ⟨rfl, g4⟩ ⟨hd', by show 8 + (sm_Il g + 11) + d' * 64 ≤ d * 64; omega⟩)
      ⟨sm_blind, hrec, fun U hU hW => ⟨rfl, by rw [hU], by rw [hU]; exact hP, va_K.moved hW.alike C.2.2.2.2.2.2.2.1, hD.weaken (fun _ _ _ _ => trivial), sm_sta.to C.2.2.2.2.2.2.2.2.1 hS hA1 hU hW.alike⟩⟩
      rfl (by simp at hlen ⊢; omega) hL.2.1 (by simp [sm_cz, List.map_append, List.map_reverse]) (lv_room hsum) hd ⟨Nat.le_refl _, Nat.le_refl _⟩
    refine sm_callr hrun hS hA1 (fun t1 H1 locs1 hal hP1 hD1 hS1 => ?_)
    have KK := K p l e s m args below meth c G A C H1 locs1 lsr hP1 (hD1.weaken (fun _ _ _ hq => hA1 _ hq)) hS1 hL
    cases hre : sm_Ir g with
    | none => rw [hre] at KK; exact KK
    | some _ => rw [hre] at KK; exact KK
  | invokestatic ix =>
    replace h : sm_inv (fun _ => true) cal x z w st D M (fun a st D M => match ts with
      | [] => nx rest ls st D M
      | _ :: _ => nx rest ls (.int a :: st) D M) = some v := h
    replace hok : (decide (decode (sm_Ib f) pc = .ok (.invokestatic ix, ln)) && (decide (ln = 3 ∧ (sm_Io f, ix, x) ∈ LN) && (match P[x]? with
      | some g => decide (z = sm_In g ∧ (ts.isEmpty = (sm_Ir g).isNone))
      | none => false))) = true := hok
    simp only [Bool.and_eq_true, decide_eq_true_eq] at hok
    obtain ⟨hd, ⟨rfl, hl⟩, hg⟩ := hok
    obtain ⟨g, hgx, w1, w2⟩ := V.2.2.2.2.2.1 _ _ _ hl
    rw [hown] at w1
    rw [hgx] at hg
    have hg := of_decide_eq_true hg
    obtain ⟨hz1, hts⟩ := hg
    obtain ⟨g1, g2, -, g4, g5, g6, -⟩ := V.2.2.2.2.2.2.1 x g hgx
    obtain ⟨as, rs, a, D', M', rfl, hlen, hrs, hrc, -, hca, h9⟩ := sm_inv_inv h
    obtain ⟨d', hd', hM⟩ := hcal x g _ D M _ hgx hca
    have K : sm_WJ TT cls sa sh f d (pc + 3) ls ((sm_rv (sm_Ir g) a).toList ++ rs) D' M' R := by
      cases hre : sm_Ir g with
      | none =>
        rw [hre] at hts
        cases ts with
        | nil => exact nxt _ _ _ _ h9
        | cons _ _ => cases hts
      | some _ =>
        rw [hre] at hts
        cases ts with
        | nil => cases hts
        | cons _ _ => exact nxt _ _ _ _ h9
    intro p l e s m args below meth c G A C H locs lsr hP hD hS hL
    have hA1 : ∀ q, va_A (sm_ws sh G D M) H.size q → A q := by
      intro q hq
      rcases hq with ⟨k, e', hq⟩ | hq
      · exact hD.2 k _ hq
      · exact C.2.2.2.2.2.2.2.2.2 q (Nat.le_trans hS.1 hq)
    have hgood : ∀ w ∈ va_wsS (sm_Iy f).cls ix (sm_Iy g) (sm_wd TT g), w ∈ TT ∧ ((w.onTables && w.keeps) = true ∨ ∃ ty, w = .arrayClass ty) := by
      intro w hw
      have hin : w ∈ TT := by
        simp only [va_wsS, sm_wd, List.mem_append, List.mem_cons, List.not_mem_nil, or_false] at hw
        rcases hw with (rfl | rfl | rfl) | (rfl | hw)
        · exact w1
        · exact w2
        · exact g2
        · exact g1
        · exact hw
      exact ⟨hin, good_of_word (V.1 w hin)⟩
    have hsum : ((rs.map (sm_cz (sm_ad G))).map fun v => v.category).sum ≤ 8 := Nat.le_trans (sm_cat_sum (fun w hw => Nat.le_of_eq (sm_c1_cat (hrc w hw)))) hrs
    have hrun := va_runS (l := l) (e := e) (below := below) (meth := meth) (locs := locs) (cells := 0) (slots := 0) (R := sm_rm d) (As := as.map (sm_cz (sm_ad G))) (rest := rs.map (sm_cz (sm_ad G))) (g := F0 m pc lsr (((as.reverse ++ rs)).map (sm_cz (sm_ad G)))) (H := H)
      ⟨C.1, C.2.1, C.2.2.1, C.2.2.2.2.2.2.1, C.2.2.2.2.2.1⟩ (hM l G H.size)
      (va_cwS (R := sm_rm d) (rm := sm_rm d') (mc := 0) (ms := 0) (sm_In g) C.2.2.2.2.2.1 hgood rfl rfl rfl g4 ⟨hd', by show 8 + (sm_Il g + 11) + d' * 64 ≤ d * 64; omega⟩)
      ⟨sm_blind, fun U hU hW => ⟨rfl, by rw [hU], by rw [hU]; exact hP, va_K.moved hW.alike C.2.2.2.2.2.2.2.1, hD.weaken (fun _ _ _ _ => trivial), sm_sta.to C.2.2.2.2.2.2.2.2.1 hS hA1 hU hW.alike⟩⟩
      rfl (by simp; omega) hL.2.1 (by simp [List.map_append, List.map_reverse]) (lv_room hsum) hd ⟨Nat.le_refl _, Nat.le_refl _⟩
    refine sm_callr hrun hS hA1 (fun t1 H1 locs1 hal hP1 hD1 hS1 => ?_)
    have KK := K p l e s m args below meth c G A C H1 locs1 lsr hP1 (hD1.weaken (fun _ _ _ hq => hA1 _ hq)) hS1 hL
    cases hre : sm_Ir g with
    | none => rw [hre] at KK; exact KK
    | some _ => rw [hre] at KK; exact KK
  | ireturn =>
    replace h : sm_p1 st (fun a st => sm_re st zr a (ret a D M)) = some v := h
    replace hok : (decide (decode (sm_Ib f) pc = .ok (.ireturn, ln)) && decide (ln = 1 ∧ (sm_Ir f).isSome = true)) = true := hok
    simp only [Bool.and_eq_true, decide_eq_true_eq] at hok
    obtain ⟨hd, rfl, hsm⟩ := hok
    obtain ⟨a, t, rfl, h⟩ := sm_p1_inv h
    obtain ⟨rfl, hzb, h⟩ := sm_re_inv h
    have hR := hret a D M v h hv
    subst hR
    intro p l e s m args below meth c G A C H locs lsr hP hD hS hL
    have hpost : ∀ (tz : FieldType), sm_Ir f = some tz → ∀ t : State, t.heap = H → s.WarmedH t.vm → sm_Qc cls sh G A (sm_Ir f) (a, D, M) args s (.returned (some (.int a))) t := by
      intro tz htz t ht hW
      refine ⟨by rw [htz]; rfl, ⟨by rw [ht]; exact hP, va_K.moved hW.alike C.2.2.2.2.2.2.2.1, hD⟩, hS.F ht⟩
    rcases (V.2.2.2.2.2.2.1 kx f hf).2.2.2.2.2.1 with h1 | h1 | h1
    · rw [h1] at hsm; cases hsm
    · exact W.zret (ty := .int) C.1 C.2.1 (C.2.2.2.1.trans h1) rfl (hpost _ h1) hS.2.2 hd (hlocks := C.2.2.2.2.1)
    · have hz2 : zr = true := by rw [hz, h1]; decide
      have hn : narrow .boolean (.int a) = .int a := by rcases hzb hz2 with rfl | rfl <;> decide +kernel
      exact W.zret (ty := .boolean) C.1 C.2.1 (C.2.2.2.1.trans h1) hn (hpost _ h1) hS.2.2 hd (hlocks := C.2.2.2.2.1)
  | return_ =>
    replace h : sm_re st false 0 (ret 0 D M) = some v := h
    replace hok : (decide (decode (sm_Ib f) pc = .ok (.return_, ln)) && decide (ln = 1 ∧ (sm_Ir f).isSome = false)) = true := hok
    simp only [Bool.and_eq_true, decide_eq_true_eq] at hok
    obtain ⟨hd, rfl, hsm⟩ := hok
    obtain ⟨rfl, -, h⟩ := sm_re_inv h
    have hR := hret 0 D M v h hv
    subst hR
    intro p l e s m args below meth c G A C H locs lsr hP hD hS hL
    rcases (V.2.2.2.2.2.2.1 kx f hf).2.2.2.2.2.1 with h1 | h1 | h1
    · exact W.vret C.1 C.2.1 (C.2.2.2.1.trans h1) (fun t ht hW => ⟨by rw [h1]; rfl, ⟨by rw [ht]; exact hP, va_K.moved hW.alike C.2.2.2.2.2.2.2.1, hD⟩, hS.F ht⟩) hS.2.2 hd (hlocks := C.2.2.2.2.1)
    · rw [h1] at hsm; cases hsm
    · rw [h1] at hsm; cases hsm
  | _ => cases h
end
end
section
/-! a run of the small machine; a method's contract out of it; loops -/
section
variable {TT : List Cond} {cls : List vw_C} {P : List sm_I} {nm : Nat → String} {LF LP : sm_L4} {LM LN LS : sm_L3} {sa : sm_Sa} {sh : List sm_Sh} {f : sm_I} {d : Nat} {R : sm_S}
abbrev sm_CalOk (TT : List Cond) (cls : List vw_C) (P : List sm_I) (sa : sm_Sa) (sh : List sm_Sh) (d : Nat) (cal : sm_Cal) : Prop :=
  ∀ (x : Nat) (g : sm_I) (as : List Value) (D : sm_D) (M : sm_M) (R' : sm_S), P[x]? = some g → cal x as D M = some R' → ∃ d', d' + 1 ≤ d ∧ sm_MJ TT cls sa sh g d' as D M R'
theorem sm_run_ok {ρ : Type} {cal : sm_Cal} {zr : Bool} {ret : Int32 → sm_D → sm_M → Option ρ} {leaf : Nat → List Value → List Value → sm_D → sm_M → Option ρ} {gd : ρ → Prop} {kx : Nat}
    (V : sm_V TT cls P nm LF LP LM LN LS sa sh) (hf : P[kx]? = some f) (hz : zr = decide (sm_Ir f = some .boolean)) (hcal : sm_CalOk TT cls P sa sh d cal)
    (hret : ∀ (a : Int32) (D : sm_D) (M : sm_M) (v : ρ), ret a D M = some v → gd v → R = (a, D, M))
    (hleaf : ∀ (pc : Nat) (ls st : List Value) (D : sm_D) (M : sm_M) (v : ρ), leaf pc ls st D M = some v → gd v → sm_WJ TT cls sa sh f d pc ls st D M R) :
    ∀ (n i : Nat) (r : sm_R) (rest : List sm_R), (sm_Ic f).drop i = r :: rest → ∀ (ls st : List Value) (D : sm_D) (M : sm_M) (v : ρ), sm_run sh sa cal (sm_Ic f) zr ret leaf n (r :: rest) ls st D M = some v → gd v → sm_WJ TT cls sa sh f d (sm_pc r) ls st D M R := by
  intro n
  induction n with
  | zero =>
    intro i r rest hr ls st D M v h hv
    cases h
  | succ n ih =>
    intro i r rest hr ls st D M v h hv
    refine sm_st_ok (nx := sm_nx leaf (sm_run sh sa cal (sm_Ic f) zr ret leaf n)) V hf hz hcal hret (fun _ _ _ _ => rfl) ?_ hr h hv
    intro j q t ls st D M v hq h hv
    have h : (match sm_fl q with
      | true => leaf (sm_pc q) ls st D M
      | false => sm_run sh sa cal (sm_Ic f) zr ret leaf n (q :: t) ls st D M) = some v := h
    cases hb : sm_fl q with
    | true => rw [hb] at h; exact hleaf _ _ _ _ _ _ h hv
    | false => rw [hb] at h; exact ih j q t hq ls st D M v h hv
/-- a block: its rows begin at place i -/
theorem sm_blk {ρ : Type} {cal : sm_Cal} {zr : Bool} {ret : Int32 → sm_D → sm_M → Option ρ} {leaf : Nat → List Value → List Value → sm_D → sm_M → Option ρ} {gd : ρ → Prop} {kx : Nat} {pc n i : Nat} {ls st : List Value} {D : sm_D} {M : sm_M} {v : ρ}
    (V : sm_V TT cls P nm LF LP LM LN LS sa sh) (hf : P[kx]? = some f) (hz : zr = decide (sm_Ir f = some .boolean)) (hcal : sm_CalOk TT cls P sa sh d cal)
    (hret : ∀ (a : Int32) (D : sm_D) (M : sm_M) (v : ρ), ret a D M = some v → gd v → R = (a, D, M))
    (hleaf : ∀ (pc : Nat) (ls st : List Value) (D : sm_D) (M : sm_M) (v : ρ), leaf pc ls st D M = some v → gd v → sm_WJ TT cls sa sh f d pc ls st D M R)
    (hpc : (sm_Ic f)[i]?.map sm_pc = some pc) (h : sm_run sh sa cal (sm_Ic f) zr ret leaf n ((sm_Ic f).drop i) ls st D M = some v) (hv : gd v) : sm_WJ TT cls sa sh f d pc ls st D M R := by
  cases hr : (sm_Ic f)[i]? with
  | none => rw [hr] at hpc; cases hpc
  | some r =>
    rw [hr] at hpc
    simp only [Option.map_some, Option.some.injEq] at hpc
    subst hpc
    have hd := sm_drop hr
    rw [hd] at h
    exact sm_run_ok V hf hz hcal hret hleaf n i r _ hd ls st D M v h hv
/-- the contract of a method, from its entry -/
theorem sm_met {as : List Value} {D : sm_D} {M : sm_M} (hy : plainName (sm_Iy f).cls = true) (hl : as.length ≤ sm_Il f) (hc : ∀ v ∈ as, sm_c1 v = true)
    (h : sm_WJ TT cls sa sh f d 0 (as ++ List.replicate (sm_Il f - as.length) (.retAddr 0)) [] D M R) : sm_MJ TT cls sa sh f d as D M R := by
  intro l G sz
  refine Met.ofW (cc := sm_Ib f) (maxL := sm_Il f) (ret := sm_Ir f) (ws' := TT) hy rfl ?_
  intro p e s m args below meth c s₁ B hml hv
  obtain ⟨rfl, hsz, hP, hK, hD0, hst⟩ := hv
  subst hsz
  have hts := atoms_spec (ws := sm_wd TT f) B.pre
  have hown : s.vm.findClass (sm_Iy f).cls = some m.cls := findClass_of_methodNamed B.named
  rw [lg_entry_eq]
  exact h p l e s m _ below meth c G (va_A (sm_ws sh G D M) s.heap.size) ⟨B.exec, B.bytes, hml, B.returns, B.notSynchronized, fun w hw => hts w (List.mem_cons_of_mem _ hw), hown, hK, hst, fun q hq => Or.inr hq⟩ s.heap [] _ hP hD0.self va_S.rf (sm_L_entry hl hc)
end
/-- a loop that ends -/
theorem sm_it_mono {σ ρ : Type} {b : σ → Option (σ ⊕ ρ)} {r : ρ} : ∀ {n : Nat} {s : σ}, sm_it b n s = some r → ∀ m, n ≤ m → sm_it b m s = some r
  | 0, _, h, _, _ => by cases h
  | n + 1, s, h, m, hm => by
    obtain ⟨m, rfl⟩ : ∃ k, m = k + 1 := ⟨m - 1, by omega⟩
    unfold sm_it at h ⊢
    split at h
    · exact sm_it_mono h m (by omega)
    · exact h
    · cases h
noncomputable def sm_lp {σ ρ : Type} (b : σ → Option (σ ⊕ ρ)) (s : σ) : Option ρ :=
  haveI := Classical.propDecidable (∃ (n : Nat) (r : ρ), sm_it b n s = some r)
  if h : ∃ (n : Nat) (r : ρ), sm_it b n s = some r then some (Classical.choose (Classical.choose_spec h)) else none
theorem sm_lp_of {σ ρ : Type} {b : σ → Option (σ ⊕ ρ)} {s : σ} {n : Nat} {r : ρ} (h : sm_it b n s = some r) : sm_lp b s = some r := by
  have hx : ∃ (n : Nat) (r : ρ), sm_it b n s = some r := ⟨n, r, h⟩
  unfold sm_lp
  rw [dif_pos hx]
  have h1 := Classical.choose_spec (Classical.choose_spec hx)
  have h2 := sm_it_mono h (max n (Classical.choose hx)) (by omega)
  have h3 := sm_it_mono h1 (max n (Classical.choose hx)) (by omega)
  rw [h3] at h2
  exact h2
theorem sm_lp_it {σ ρ : Type} {b : σ → Option (σ ⊕ ρ)} {s : σ} {r : ρ} (h : sm_lp b s = some r) : ∃ n, sm_it b n s = some r := by
  unfold sm_lp at h
  split at h
  · rename_i hx
    have h1 := Classical.choose_spec (Classical.choose_spec hx)
    rw [Option.some.inj h] at h1
    exact ⟨_, h1⟩
  · cases h
theorem sm_lp_eq {σ ρ : Type} {b : σ → Option (σ ⊕ ρ)} {s s' : σ} (h : b s = some (.inl s')) : sm_lp b s = sm_lp b s' := by
  cases h1 : sm_lp b s' with
  | some r =>
    obtain ⟨n, hn⟩ := sm_lp_it h1
    exact sm_lp_of (n := n + 1) (by unfold sm_it; rw [h]; exact hn)
  | none =>
    cases h2 : sm_lp b s with
    | none => rfl
    | some r =>
      obtain ⟨n, hn⟩ := sm_lp_it h2
      cases n with
      | zero => cases hn
      | succ n =>
        unfold sm_it at hn
        rw [h] at hn
        rw [sm_lp_of hn] at h1
        cases h1
theorem sm_lp_end {σ ρ : Type} {b : σ → Option (σ ⊕ ρ)} {s : σ} {r : ρ} (h : b s = some (.inr r)) : sm_lp b s = some r := sm_lp_of (n := 1) (by unfold sm_it; rw [h])
/-- a property of a loop's states, from its end backwards -/
theorem sm_lp_ind {σ ρ : Type} {b : σ → Option (σ ⊕ ρ)} {r : ρ} (W : σ → Prop) (hs : ∀ (s : σ) (v : σ ⊕ ρ), b s = some v → (∀ s', v = .inl s' → W s') → (∀ r', v = .inr r' → r' = r) → W s) : ∀ {s : σ}, sm_lp b s = some r → W s := by
  intro s h
  obtain ⟨n, hn⟩ := sm_lp_it h
  clear h
  induction n generalizing s with
  | zero => cases hn
  | succ n ih =>
    unfold sm_it at hn
    split at hn
    · rename_i s' he
      exact hs s _ he (fun q hq => by cases hq; exact ih hn) (fun q hq => by cases hq)
    · rename_i q he
      exact hs s _ he (fun q hq => by cases hq) (fun q' hq => by cases hq; exact Option.some.inj hn)
    · cases hn
end
