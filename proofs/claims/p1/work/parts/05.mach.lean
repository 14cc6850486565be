/-! A small machine for methods over ints, booleans, int arrays and fixed cells; what it computes, the real machine does (part 03).
A reference is a PLACE: 0 is null, i + 1 is cell i of the shape 'sh'; from 1000 on the static tables. -/
abbrev sm_M : Type := Nat → Nat → Int32
abbrev sm_D : Type := List Nat
abbrev sm_S : Type := Int32 × sm_D × sm_M
/-- a cell: (0, n, _) an int array of n places; (1, n, _) a boolean array; (2, c, fields) an object of class number c. A field: (0, _) an int, (1, p) always the cell p, (2, j) the cell that D names at j, (3, _) a boolean -/
abbrev sm_Sh : Type := Nat × Nat × List (Nat × Nat)
/-- a row of code: pc, instruction, length, begins a block of its own, v, x, y, z, w, switch -/
abbrev sm_R : Type := Nat × Instr × Nat × Bool × Int32 × Nat × Nat × Nat × Nat × List (Int32 × Nat)
abbrev sm_pc (r : sm_R) : Nat := r.1
abbrev sm_in (r : sm_R) : Instr := r.2.1
abbrev sm_ln (r : sm_R) : Nat := r.2.2.1
abbrev sm_fl (r : sm_R) : Bool := r.2.2.2.1
abbrev sm_v (r : sm_R) : Int32 := r.2.2.2.2.1
abbrev sm_x (r : sm_R) : Nat := r.2.2.2.2.2.1
abbrev sm_y (r : sm_R) : Nat := r.2.2.2.2.2.2.1
abbrev sm_z (r : sm_R) : Nat := r.2.2.2.2.2.2.2.1
abbrev sm_w (r : sm_R) : Nat := r.2.2.2.2.2.2.2.2.1
abbrev sm_ts (r : sm_R) : List (Int32 × Nat) := r.2.2.2.2.2.2.2.2.2
def sm_up (M : sm_M) (p j : Nat) (v : Int32) : sm_M := fun q => if q = p then upd (M p) j v else M q
def sm_at (sh : List sm_Sh) (p : Nat) : Option sm_Sh := match p with
  | 0 => none
  | i + 1 => sh[i]?
def sm_ck {ρ : Type} (i : Int32) (n : Nat) (k : Option ρ) : Option ρ := if 0 ≤ i.toInt ∧ i.toInt < (n : Int) then k else none
def sm_bo {ρ : Type} (v : Int32) (k : Option ρ) : Option ρ := if v = 0 ∨ v = 1 then k else none
def sm_nz {ρ : Type} (v : Int32) (k : Option ρ) : Option ρ := if v = 0 then none else k
def sm_bi {ρ : Type} (c : Option sm_S) (k : Int32 → sm_D → sm_M → Option ρ) : Option ρ := match c with
  | some (x, D, M) => k x D M
  | none => none
def sm_sw {ρ : Type} (v : Int32) (d : Nat) (k : Nat → Option ρ) : List (Int32 × Nat) → Option ρ
  | [] => k d
  | (c, t) :: r => if v = c then k t else sm_sw v d k r
def sm_cn {ρ : Type} (c : ClassFile.Cond) (a b : Int32) (t f : Option ρ) : Option ρ := match c with
  | .eq => if a = b then t else f
  | .ne => if a = b then f else t
  | .lt => if a < b then t else f
  | .ge => if a < b then f else t
  | .gt => if b < a then t else f
  | .le => if b < a then f else t
def sm_p1 {ρ : Type} (st : List Value) (k : Int32 → List Value → Option ρ) : Option ρ := match st with
  | .int x :: st => k x st
  | _ => none
def sm_p2 {ρ : Type} (st : List Value) (k : Int32 → Int32 → List Value → Option ρ) : Option ρ := match st with
  | .int y :: .int x :: st => k x y st
  | _ => none
def sm_c1 (v : Value) : Bool := match v with
  | .int _ => true
  | .ref _ => true
  | _ => false
def sm_pr {ρ : Type} (st : List Value) (k : Nat → List Value → Option ρ) : Option ρ := match st with
  | .ref (p + 1) :: st => k p st
  | _ => none
def sm_v1 {ρ : Type} (st : List Value) (k : Value → List Value → Option ρ) : Option ρ := match st with
  | v :: st => match sm_c1 v with
    | true => k v st
    | false => none
  | _ => none
/-- the end of a method -/
def sm_re {ρ : Type} (st : List Value) (zr : Bool) (a : Int32) (k : Option ρ) : Option ρ := match st, zr with
  | [], true => sm_bo a k
  | [], false => k
  | _, _ => none
def sm_tab (vs : List Nat) (i : Nat) : Int32 := nI (vs.getD i 0)
abbrev sm_Sa : Type := List (Nat × (String × String) × List Nat)
def sm_sa : sm_Sa → Nat → Option (List Nat)
  | [], _ => none
  | q :: r, p => if q.1 = p then some q.2.2 else sm_sa r p
/-- a value is read from a local -/
def sm_lo {ρ : Type} (ls : List Value) (i : Nat) (k : Value → Option ρ) : Option ρ := match ls[i]? with
  | some (.int x) => k (.int x)
  | some (.ref (p + 1)) => k (.ref (p + 1))
  | _ => none
def sm_ald {ρ : Type} (sh : List sm_Sh) (sa : sm_Sa) (st : List Value) (M : sm_M) (k : Int32 → List Value → Option ρ) : Option ρ := match st with
  | .int i :: .ref p :: st => match sm_at sh p with
    | some (0, n, _) => sm_ck i n (k (M p i.toNatClampNeg) st)
    | some _ => none
    | none => match sm_sa sa p with
      | some vs => sm_ck i vs.length (k (sm_tab vs i.toNatClampNeg) st)
      | none => none
  | _ => none
def sm_zld {ρ : Type} (sh : List sm_Sh) (st : List Value) (M : sm_M) (k : Int32 → List Value → Option ρ) : Option ρ := match st with
  | .int i :: .ref p :: st => match sm_at sh p with
    | some (1, n, _) => sm_ck i n (k (M p i.toNatClampNeg) st)
    | _ => none
  | _ => none
def sm_ast {ρ : Type} (sh : List sm_Sh) (st : List Value) (M : sm_M) (k : List Value → sm_M → Option ρ) : Option ρ := match st with
  | .int x :: .int i :: .ref p :: st => match sm_at sh p with
    | some (0, n, _) => sm_ck i n (k st (sm_up M p i.toNatClampNeg x))
    | _ => none
  | _ => none
def sm_zst {ρ : Type} (sh : List sm_Sh) (st : List Value) (M : sm_M) (k : List Value → sm_M → Option ρ) : Option ρ := match st with
  | .int x :: .int i :: .ref p :: st => match sm_at sh p with
    | some (1, n, _) => sm_ck i n (sm_bo x (k st (sm_up M p i.toNatClampNeg x)))
    | _ => none
  | _ => none
def sm_aln {ρ : Type} (sh : List sm_Sh) (st : List Value) (k : Int32 → List Value → Option ρ) : Option ρ := match st with
  | .ref p :: st => match sm_at sh p with
    | some (0, n, _) => k (nI n) st
    | _ => none
  | _ => none
def sm_get {ρ : Type} (sh : List sm_Sh) (ci fk : Nat) (st : List Value) (D : sm_D) (M : sm_M) (k : Value → List Value → Option ρ) : Option ρ := match st with
  | .ref p :: st => match sm_at sh p with
    | some (2, c, fs) => match Nat.beq c ci with
      | true => match fs[fk]? with
        | some (0, _) => k (.int (M p fk)) st
        | some (3, _) => k (.int (M p fk)) st
        | some (1, q) => k (.ref q) st
        | some (2, j) => match D[j]? with
          | some q => k (.ref q) st
          | none => none
        | _ => none
      | false => none
    | _ => none
  | _ => none
def sm_put {ρ : Type} (sh : List sm_Sh) (ci fk : Nat) (st : List Value) (D : sm_D) (M : sm_M) (k : List Value → sm_D → sm_M → Option ρ) : Option ρ := match st with
  | .int v :: .ref p :: st => match sm_at sh p with
    | some (2, c, fs) => match Nat.beq c ci with
      | true => match fs[fk]? with
        | some (0, _) => k st D (sm_up M p fk v)
        | some (3, _) => sm_bo v (k st D (sm_up M p fk v))
        | _ => none
      | false => none
    | _ => none
  | .ref q :: .ref p :: st => match sm_at sh p with
    | some (2, c, fs) => match Nat.beq c ci with
      | true => match fs[fk]? with
        | some (2, j) => match D[j]? with
          | some _ => k st (D.set j q) M
          | none => none
        | _ => none
      | false => none
    | _ => none
  | _ => none
/-- the receiver is an object of class number ci -/
def sm_rcv (sh : List sm_Sh) (ci : Nat) (as : List Value) : Bool := match as with
  | .ref p :: _ => match sm_at sh p with
    | some (2, c, _) => Nat.beq c ci
    | _ => false
  | _ => false
abbrev sm_Cal : Type := Nat → List Value → sm_D → sm_M → Option sm_S
/-- what a call does to D: nothing (0), or its place j becomes the argument number a (10 j + a + 1) -/
def sm_ef (w : Nat) (as : List Value) (D : sm_D) : sm_D := match w with
  | 0 => D
  | w + 1 => match as[w % 10]? with
    | some (.ref q) => D.set (w / 10) q
    | _ => D
def sm_dq {ρ : Type} (D E : sm_D) (k : Option ρ) : Option ρ := if D = E then k else none
def sm_inv {ρ : Type} (ok : List Value → Bool) (cal : sm_Cal) (x z w : Nat) (st : List Value) (D : sm_D) (M : sm_M) (k : Int32 → List Value → sm_D → sm_M → Option ρ) : Option ρ :=
  match Nat.ble (st.drop z).length 8, ok (st.take z).reverse, Nat.ble z st.length, (st.drop z).all sm_c1 with
  | true, true, true, true => sm_bi (cal x (st.take z).reverse D M) (fun r D' M => sm_dq D' (sm_ef w (st.take z).reverse D) (k r (st.drop z) (sm_ef w (st.take z).reverse D) M))
  | _, _, _, _ => none
abbrev sm_K (ρ : Type) : Type := List sm_R → List Value → List Value → sm_D → sm_M → Option ρ
/-- one instruction -/
def sm_st {ρ : Type} (sh : List sm_Sh) (sa : sm_Sa) (cal : sm_Cal) (code : List sm_R) (zr : Bool) (ret : Int32 → sm_D → sm_M → Option ρ) (nx : sm_K ρ) : sm_K ρ := fun rows ls st D M => match rows with
  | [] => none
  | r :: rest => match sm_in r with
    | .iconst _ => nx rest ls (.int (sm_v r) :: st) D M
    | .bipush _ => nx rest ls (.int (sm_v r) :: st) D M
    | .sipush _ => nx rest ls (.int (sm_v r) :: st) D M
    | .iload_n _ => sm_lo ls (sm_x r) (fun v => match v with
      | .int _ => nx rest ls (v :: st) D M
      | _ => none)
    | .iload _ => sm_lo ls (sm_x r) (fun v => match v with
      | .int _ => nx rest ls (v :: st) D M
      | _ => none)
    | .aload_n _ => sm_lo ls (sm_x r) (fun v => match v with
      | .ref _ => nx rest ls (v :: st) D M
      | _ => none)
    | .aload _ => sm_lo ls (sm_x r) (fun v => match v with
      | .ref _ => nx rest ls (v :: st) D M
      | _ => none)
    | .istore_n _ => sm_p1 st (fun a st => nx rest (ls.set (sm_x r) (.int a)) st D M)
    | .istore _ => sm_p1 st (fun a st => nx rest (ls.set (sm_x r) (.int a)) st D M)
    | .astore_n _ => sm_pr st (fun p st => nx rest (ls.set (sm_x r) (.ref (p + 1))) st D M)
    | .astore _ => sm_pr st (fun p st => nx rest (ls.set (sm_x r) (.ref (p + 1))) st D M)
    | .iinc _ _ => sm_lo ls (sm_x r) (fun v => match v with
      | .int a => nx rest (ls.set (sm_x r) (.int (a + sm_v r))) st D M
      | _ => none)
    | .iadd => sm_p2 st (fun a b st => nx rest ls (.int (a + b) :: st) D M)
    | .isub => sm_p2 st (fun a b st => nx rest ls (.int (a - b) :: st) D M)
    | .imul => sm_p2 st (fun a b st => nx rest ls (.int (a * b) :: st) D M)
    | .iand => sm_p2 st (fun a b st => nx rest ls (.int (a &&& b) :: st) D M)
    | .ixor => sm_p2 st (fun a b st => nx rest ls (.int (a ^^^ b) :: st) D M)
    | .iushr => sm_p2 st (fun a b st => nx rest ls (.int ((a.toUInt32 >>> (b.toUInt32 &&& Int32.toUInt32 31)).toInt32) :: st) D M)
    | .irem => sm_p2 st (fun a b st => sm_nz b (nx rest ls (.int (a - a / b * b) :: st) D M))
    | .dup => sm_v1 st (fun v st => nx rest ls (v :: v :: st) D M)
    | .pop => sm_v1 st (fun _ st => nx rest ls st D M)
    | .dup_x1 => sm_v1 st (fun v st => sm_v1 st (fun w st => nx rest ls (v :: w :: v :: st) D M))
    | .dup_x2 => sm_v1 st (fun v st => sm_v1 st (fun w st => sm_v1 st (fun u st => nx rest ls (v :: w :: u :: v :: st) D M)))
    | .dup2 => sm_v1 st (fun v st => sm_v1 st (fun w st => nx rest ls (v :: w :: v :: w :: st) D M))
    | .ifCond c _ => sm_p1 st (fun a st => sm_cn c a 0 (nx (code.drop (sm_x r)) ls st D M) (nx rest ls st D M))
    | .if_icmp c _ => sm_p2 st (fun a b st => sm_cn c a b (nx (code.drop (sm_x r)) ls st D M) (nx rest ls st D M))
    | .goto _ => nx (code.drop (sm_x r)) ls st D M
    | .tableswitch _ _ _ _ => sm_p1 st (fun a st => sm_sw a (sm_x r) (fun t => nx (code.drop t) ls st D M) (sm_ts r))
    | .lookupswitch _ _ => sm_p1 st (fun a st => sm_sw a (sm_x r) (fun t => nx (code.drop t) ls st D M) (sm_ts r))
    | .getfield _ => sm_get sh (sm_x r) (sm_y r) st D M (fun v st => nx rest ls (v :: st) D M)
    | .putfield _ => sm_put sh (sm_x r) (sm_y r) st D M (fun st D M => nx rest ls st D M)
    | .getstatic _ => nx rest ls (.ref (sm_x r) :: st) D M
    | .iaload => sm_ald sh sa st M (fun v st => nx rest ls (.int v :: st) D M)
    | .baload => sm_zld sh st M (fun v st => nx rest ls (.int v :: st) D M)
    | .iastore => sm_ast sh st M (fun st M => nx rest ls st D M)
    | .bastore => sm_zst sh st M (fun st M => nx rest ls st D M)
    | .arraylength => sm_aln sh st (fun v st => nx rest ls (.int v :: st) D M)
    | .invokevirtual _ => sm_inv (sm_rcv sh (sm_y r)) cal (sm_x r) (sm_z r) (sm_w r) st D M (fun a st D M => match sm_ts r with
      | [] => nx rest ls st D M
      | _ :: _ => nx rest ls (.int a :: st) D M)
    | .invokestatic _ => sm_inv (fun _ => true) cal (sm_x r) (sm_z r) (sm_w r) st D M (fun a st D M => match sm_ts r with
      | [] => nx rest ls st D M
      | _ :: _ => nx rest ls (.int a :: st) D M)
    | .ireturn => sm_p1 st (fun a st => sm_re st zr a (ret a D M))
    | .return_ => sm_re st false 0 (ret 0 D M)
    | _ => none
def sm_nx {ρ : Type} (leaf : Nat → List Value → List Value → sm_D → sm_M → Option ρ) (go : sm_K ρ) : sm_K ρ := fun rows ls st D M => match rows with
  | [] => none
  | r :: rest => match sm_fl r with
    | true => leaf (sm_pc r) ls st D M
    | false => go (r :: rest) ls st D M
def sm_run {ρ : Type} (sh : List sm_Sh) (sa : sm_Sa) (cal : sm_Cal) (code : List sm_R) (zr : Bool) (ret : Int32 → sm_D → sm_M → Option ρ) (leaf : Nat → List Value → List Value → sm_D → sm_M → Option ρ) : Nat → sm_K ρ
  | 0 => fun _ _ _ _ _ => none
  | n + 1 => sm_st sh sa cal code zr ret (sm_nx leaf (sm_run sh sa cal code zr ret leaf n))
/-- loops -/
def sm_it {σ ρ : Type} (b : σ → Option (σ ⊕ ρ)) : Nat → σ → Option ρ
  | 0, _ => none
  | n + 1, s => match b s with
    | some (.inl s') => sm_it b n s'
    | some (.inr r) => some r
    | none => none
