/-! constructors: a field that gets a new array -/
section
variable {p : Program} {l : Launch} {e : Env} {R : Room} {s : State} {m : MethodId} {args : Array Value} {below : List Frame} {meth : Method} {c : Code} {H H0 : Heap} {locs : List Loc} {cells slots : Nat} {Q : State → Prop}
variable {cc : ByteArray} {D : va_G} {A : Nat → Prop} {ls : Array Slot} {pc : Nat} {cI cZ : ClassId}
/-- the class of int arrays is one -/
theorem cs_cI {cA : ClassId} {tys : List (ClassId × FieldType)} {k j : Nat} {ty : FieldType} (hK : va_K D smCl tys s) (h1 : tys[k]? = some (cA, .int)) (h2 : tys[j]? = some (cI, .int)) : cA = cI := by
  have a1 : s.vm.findClass ("[" ++ FieldType.int.toString) = some cA := (hK.2 k _ h1).2
  have a2 : s.vm.findClass ("[" ++ FieldType.int.toString) = some cI := (hK.2 j _ h2).2
  exact Option.some.inj (a1.symm.trans a2)
theorem cs_cZ {cA : ClassId} {tys : List (ClassId × FieldType)} {k j : Nat} (hK : va_K D smCl tys s) (h1 : tys[k]? = some (cA, .boolean)) (h2 : tys[j]? = some (cZ, .boolean)) : cA = cZ := by
  have a1 : s.vm.findClass ("[" ++ FieldType.boolean.toString) = some cA := (hK.2 k _ h1).2
  have a2 : s.vm.findClass ("[" ++ FieldType.boolean.toString) = some cZ := (hK.2 j _ h2).2
  exact Option.some.inj (a1.symm.trans a2)
/-- what a constructor's walk leans on -/
def cs_Cx (cc : ByteArray) (own : String) (D : va_G) (cI cZ : ClassId) (A : Nat → Prop) (H0 : Heap) (p : Program) (s : State) (m : MethodId) (args : Array Value) (meth : Method) (c : Code) : Prop :=
  p.tables.exec = Jvm.exec ∧ c.code = cc ∧ (∀ w ∈ smT, w.before args s = true) ∧ s.vm.findClass own = some m.cls ∧ va_K D smCl [(cI, .int), (cZ, .boolean)] s ∧ meth.name = "<init>" ∧ ∀ q, H0.size ≤ q → A q
theorem cs_arr {own : String} {o ci idx n k nF : Nat} {ni : Int32} {fs : List Value} {arrs : va_W} {C : String} {T : u_T} {p2 : Nat} {z : Bool} (X : cs_Cx cc own D cI cZ A H0 p s m args meth c)
    (hP : va_P D smCl ((o, .inr (ci, fs)) :: arrs) H) (hD : va_D A ((o, .inr (ci, fs)) :: arrs)) (hS : va_S A H0 H locs) (hl : ls[0]? = some (.val (.ref o)))
    (d1 : decode cc pc = .ok (.aload_n 0, 1)) (d3 : decode cc p2 = .ok (.newarray (if z then .boolean else .int), 2)) (d4 : decode cc (p2 + 2) = .ok (.putfield idx, 3))
    (hpush : ∀ (st : List Value), W p l e R s m args below meth c H locs cells slots Q (F0 m p2 ls (.int ni :: st)) → W p l e R s m args below meth c H locs cells slots Q (F0 m (pc + 1) ls st))
    (hn0 : ¬ ni < 0) (hni : ni.toNatClampNeg = n) (hn : n ≤ 3000) (hcells : cells + 1 ≤ R.cells) (hslots : slots + n ≤ R.slots)
    (hc : smCl[ci]? = some (C, T, nF)) (hk : k < nF) (hf : fs.length = nF) (hlk : Cond.fieldLink own idx C (T k).2.1 (T k).2.2.1 ∈ smT) (hT1 : (T k).1 = C) (hoc : C = own) (hty : parseFieldDescriptor (T k).2.2.1 = some (.array (if z then .boolean else .int)))
    (harr : Cond.arrayClass (newarray.typeOf (if z then .boolean else .int)) ∈ smT)
    (kk : ∀ (q : Nat) (H1 : Heap) (locs1 : List Loc), va_P D smCl ((o, .inr (ci, fs.set k (.ref q))) :: (arrs ++ [(q, .inl ((if z then cZ else cI), n, .inl (fun _ => 0)))])) H1 → va_D A ((o, .inr (ci, fs.set k (.ref q))) :: (arrs ++ [(q, .inl ((if z then cZ else cI), n, .inl (fun _ => 0)))])) → va_S A H0 H1 locs1 →
      W p l e R s m args below meth c H1 locs1 (cells + 1) (slots + n) Q (F0 m (p2 + 5) ls [])) : W p l e R s m args below meth c H locs cells slots Q (F0 m pc ls []) := by
  obtain ⟨hx, hb, hts, hown, hK, hin, hA⟩ := X
  refine lv_aload_n hx hb d1 rfl hl ?_
  refine hpush _ ?_
  obtain ⟨hu, ⟨ty0, hty0⟩, hnm⟩ := sm_vCls ci C T nF hc
  have fin : ∀ (q : Nat) (cA : ClassId) (H1 : Heap), cA = (if z then cZ else cI) → va_P D smCl (((o, .inr (ci, fs)) :: arrs) ++ [(q, .inl (cA, n, .inl (fun _ => 0)))]) H1 → va_D A (((o, .inr (ci, fs)) :: arrs) ++ [(q, .inl (cA, n, .inl (fun _ => 0)))]) → va_S A H0 H1 locs →
      W p l e R s m args below meth c H1 locs (cells + 1) (slots + n) Q (F0 m (p2 + 2) ls [.ref q, .ref o]) := by
    intro q cA H1 hcA hP1 hD1 hS1
    subst hcA
    have he : ((((o, .inr (ci, fs)) :: arrs) ++ [(q, .inl ((if z then cZ else cI), n, .inl (fun _ => 0)))]) : va_W)[0]? = some (o, .inr (ci, fs)) := rfl
    by_cases hfin : (T k).2.2.2 = true
    · refine va_putF (v := .ref q) hx hb hts hu ty0 hty0 hnm hown hK hP1 hD1 hS1 0 he hc k hk (hts _ hlk) (fun y h9 => by rw [hT1] at h9; exact h9) hfin hin (hT1.trans hoc) hty ?_ ?_ (by rw [hf]; exact hk) d4 (fun H2 locs2 hP2 hD2 hS2 => kk q H2 locs2 hP2 hD2 hS2)
      · cases z <;> rfl
      · cases z <;> rfl
    · refine va_put (v := .ref q) hx hb hts hu ty0 hty0 hnm hown hK hP1 hD1 hS1 0 he hc k hk (hts _ hlk) (fun y h9 => by rw [hT1] at h9; exact h9) (by simpa using hfin) hty ?_ ?_ (by rw [hf]; exact hk) d4 (fun H2 locs2 hP2 hD2 hS2 => kk q H2 locs2 hP2 hD2 hS2)
      · cases z <;> rfl
      · cases z <;> rfl
  cases z with
  | false =>
    refine va_newa (ty := .int) (a0 := (n, .inl (fun _ => 0))) hx hb (hts _ harr) rfl hK hP hD hS hA (fun cA => by rw [vp_cell_i]; rfl) hn0 hni (by show n * 4 ≤ _; omega) hcells hslots d3 (fun q cA H1 hK1 hP1 hD1 hS1 => fin q cA H1 ?_ hP1 hD1 hS1)
    exact cs_cI (ty := .int) hK1 (k := 2) (j := 0) rfl rfl
  | true =>
    refine va_newa (ty := .boolean) (a0 := (n, .inl (fun _ => 0))) hx hb (hts _ harr) rfl hK hP hD hS hA (fun cA => by rw [vp_cell_i]; rfl) hn0 hni (by show n * 1 ≤ _; omega) hcells hslots d3 (fun q cA H1 hK1 hP1 hD1 hS1 => fin q cA H1 ?_ hP1 hD1 hS1)
    exact cs_cZ hK1 (k := 2) (j := 1) rfl rfl
end
/-! a field gets an argument, or a number; a place of an array gets a number -/
section
variable {p : Program} {l : Launch} {e : Env} {R : Room} {s : State} {m : MethodId} {args : Array Value} {below : List Frame} {meth : Method} {c : Code} {H H0 : Heap} {locs : List Loc} {cells slots : Nat} {Q : State → Prop}
variable {cc : ByteArray} {D : va_G} {A : Nat → Prop} {ls : Array Slot} {pc : Nat} {cI cZ : ClassId}
theorem cs_ref {own : String} {o r ci idx k nF : Nat} {j : Fin 4} {fs : List Value} {arrs : va_W} {C C' : String} {T : u_T} (X : cs_Cx cc own D cI cZ A H0 p s m args meth c)
    (hP : va_P D smCl ((o, .inr (ci, fs)) :: arrs) H) (hD : va_D A ((o, .inr (ci, fs)) :: arrs)) (hS : va_S A H0 H locs) (hl : ls[0]? = some (.val (.ref o))) (hr : ls[(j : Nat)]? = some (.val (.ref r)))
    (d1 : decode cc pc = .ok (.aload_n 0, 1)) (d2 : decode cc (pc + 1) = .ok (.aload_n j, 1)) (d3 : decode cc (pc + 2) = .ok (.putfield idx, 3))
    (hc : smCl[ci]? = some (C, T, nF)) (hk : k < nF) (hf : fs.length = nF) (hlk : Cond.fieldLink own idx C (T k).2.1 (T k).2.2.1 ∈ smT) (hT1 : (T k).1 = C) (hoc : C = own) (hfin : (T k).2.2.2 = true) (hty : parseFieldDescriptor (T k).2.2.1 = some (.object C'))
    (kk : ∀ (H1 : Heap) (locs1 : List Loc), va_P D smCl ((o, .inr (ci, fs.set k (.ref r))) :: arrs) H1 → va_D A ((o, .inr (ci, fs.set k (.ref r))) :: arrs) → va_S A H0 H1 locs1 →
      W p l e R s m args below meth c H1 locs1 cells slots Q (F0 m (pc + 5) ls [])) : W p l e R s m args below meth c H locs cells slots Q (F0 m pc ls []) := by
  obtain ⟨hx, hb, hts, hown, hK, hin, hA⟩ := X
  refine lv_aload_n hx hb d1 rfl hl ?_
  refine lv_aload_n hx hb d2 rfl hr ?_
  obtain ⟨hu, ⟨ty0, hty0⟩, hnm⟩ := sm_vCls ci C T nF hc
  exact va_putF (v := .ref r) hx hb hts hu ty0 hty0 hnm hown hK hP hD hS 0 rfl hc k hk (hts _ hlk) (fun y h9 => by rw [hT1] at h9; exact h9) hfin hin (hT1.trans hoc) hty rfl rfl (by rw [hf]; exact hk) d3 (fun H2 locs2 hP2 hD2 hS2 => kk H2 locs2 hP2 hD2 hS2)
theorem cs_int {own : String} {o ci idx k nF : Nat} {v : Int32} {fs : List Value} {arrs : va_W} {C : String} {T : u_T} {p2 : Nat} (X : cs_Cx cc own D cI cZ A H0 p s m args meth c)
    (hP : va_P D smCl ((o, .inr (ci, fs)) :: arrs) H) (hD : va_D A ((o, .inr (ci, fs)) :: arrs)) (hS : va_S A H0 H locs) (hl : ls[0]? = some (.val (.ref o)))
    (d1 : decode cc pc = .ok (.aload_n 0, 1)) (d3 : decode cc p2 = .ok (.putfield idx, 3))
    (hpush : ∀ (st : List Value), W p l e R s m args below meth c H locs cells slots Q (F0 m p2 ls (.int v :: st)) → W p l e R s m args below meth c H locs cells slots Q (F0 m (pc + 1) ls st))
    (hc : smCl[ci]? = some (C, T, nF)) (hk : k < nF) (hf : fs.length = nF) (hlk : Cond.fieldLink own idx C (T k).2.1 (T k).2.2.1 ∈ smT) (hT1 : (T k).1 = C) (hfin : (T k).2.2.2 = false) (hty : parseFieldDescriptor (T k).2.2.1 = some .int)
    (kk : ∀ (H1 : Heap) (locs1 : List Loc), va_P D smCl ((o, .inr (ci, fs.set k (.int v))) :: arrs) H1 → va_D A ((o, .inr (ci, fs.set k (.int v))) :: arrs) → va_S A H0 H1 locs1 →
      W p l e R s m args below meth c H1 locs1 cells slots Q (F0 m (p2 + 3) ls [])) : W p l e R s m args below meth c H locs cells slots Q (F0 m pc ls []) := by
  obtain ⟨hx, hb, hts, hown, hK, hin, hA⟩ := X
  refine lv_aload_n hx hb d1 rfl hl ?_
  refine hpush _ ?_
  obtain ⟨hu, ⟨ty0, hty0⟩, hnm⟩ := sm_vCls ci C T nF hc
  exact va_put (v := .int v) hx hb hts hu ty0 hty0 hnm hown hK hP hD hS 0 rfl hc k hk (hts _ hlk) (fun y h9 => by rw [hT1] at h9; exact h9) hfin hty rfl rfl (by rw [hf]; exact hk) d3 (fun H2 locs2 hP2 hD2 hS2 => kk H2 locs2 hP2 hD2 hS2)
theorem cs_ast {own : String} {o q ci idx k j nF n : Nat} {i v : Int32} {f : Nat → Int32} {fs : List Value} {arrs : va_W} {C : String} {T : u_T} {c1 c2 : Int} (X : cs_Cx cc own D cI cZ A H0 p s m args meth c)
    (hP : va_P D smCl ((o, .inr (ci, fs)) :: arrs) H) (hD : va_D A ((o, .inr (ci, fs)) :: arrs)) (hS : va_S A H0 H locs) (hl : ls[0]? = some (.val (.ref o)))
    (d1 : decode cc pc = .ok (.aload_n 0, 1)) (d2 : decode cc (pc + 1) = .ok (.getfield idx, 3)) (d3 : decode cc (pc + 4) = .ok (.iconst c1, 1)) (d4 : decode cc (pc + 5) = .ok (.iconst c2, 1)) (d5 : decode cc (pc + 6) = .ok (.iastore, 1)) (e1 : Int32.ofInt c1 = i) (e2 : Int32.ofInt c2 = v)
    (hc : smCl[ci]? = some (C, T, nF)) (hk : k < nF) (hlk : Cond.fieldLink own idx C (T k).2.1 (T k).2.2.1 ∈ smT) (hT1 : (T k).1 = C) (hq : fs[k]? = some (.ref q)) (ha : arrs[j]? = some (q, .inl (cI, n, .inl f))) (hin : vp_in i n)
    (kk : ∀ (H1 : Heap) (locs1 : List Loc), va_P D smCl ((o, .inr (ci, fs)) :: arrs.set j (q, .inl (cI, n, .inl (upd f i.toNatClampNeg v)))) H1 → va_D A ((o, .inr (ci, fs)) :: arrs.set j (q, .inl (cI, n, .inl (upd f i.toNatClampNeg v)))) → va_S A H0 H1 locs1 →
      W p l e R s m args below meth c H1 locs1 cells slots Q (F0 m (pc + 7) ls [])) : W p l e R s m args below meth c H locs cells slots Q (F0 m pc ls []) := by
  obtain ⟨hx, hb, hts, hown, hK, hin2, hA⟩ := X
  refine lv_aload_n hx hb d1 rfl hl ?_
  obtain ⟨hu, ⟨ty0, hty0⟩, hnm⟩ := sm_vCls ci C T nF hc
  refine va_get hx hb hts hu hown hK hP 0 rfl hc k hk (hts _ hlk) (fun y h9 => by rw [hT1] at h9; exact h9) hq d2 ?_
  refine lv_iconst hx hb d3 e1 ?_
  refine lv_iconst hx hb d4 e2 ?_
  exact va_iast (f := f) hx hb hK hP hD hS (j + 1) 0 ha rfl hin d5 (fun H2 locs2 hP2 hD2 hS2 => kk H2 locs2 hP2 hD2 hS2)
end
