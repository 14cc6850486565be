/-! the law's start: by program -/
def st_F : Term := .static "TypedMill$Code" "FORM" "[I"
def st_P : Term := .static "TypedMill$Expressions" "PARTS" "[I"
theorem st_eq {args : Array Value} {s : State} {t u : Term} {v : Value} (h : (Cond.eq t u).before args s = true) (hu : u.eval args s none [] s = some v) : t.eval args s none [] s = some v := va_eqv h hu
theorem st_no {args : Array Value} {s : State} {X Y : String} (h : (Cond.not (.castable X Y)).before args s = true) : xt_no X Y s := by
  intro cX cY hX hY
  have hv := Cond.holds_not_iff.mp h
  simp only [Cond.value, hX, hY] at hv
  exact Option.some.inj hv
theorem st_mF : ∀ j, j < 39 → Cond.eq (.elem st_F (.int (Int32.ofNat j))) (.int (sm_tab tFORM j)) ∈ flatC (Jvm.Cond.and given_1 narrow_1) := by decide +kernel
theorem st_mP : ∀ j, j < 11 → Cond.eq (.elem st_P (.int (Int32.ofNat j))) (.int (sm_tab tPARTS j)) ∈ flatC (Jvm.Cond.and given_1 narrow_1) := by decide +kernel
theorem st_sta {args : Array Value} {s : State} (hs : ∀ w ∈ flatC (Jvm.Cond.and given_1 narrow_1), w.before args s = true) (hts : ∀ w ∈ lw_tbl, w.before args s = true) : ∃ aF aP : Nat, cs_sta aF aP (fun q => s.heap.size ≤ q) s s.heap := by
  have hA : ∀ a : Nat, a < s.heap.size → ¬ s.heap.size ≤ a := fun a h => Nat.not_le.mpr h
  obtain ⟨aF, eF, tF⟩ := va_Tof (tm := st_F) (ty := .int) (N := 39) (f := fun j => .int (sm_tab tFORM j)) (A := fun q => s.heap.size ≤ q) (by decide) (hs (.arrayOf st_F .int) (by decide +kernel)) (st_eq (hs (.eq (.length st_F) (.int 39)) (by decide +kernel)) rfl) (fun j hj => st_eq (hs _ (st_mF j hj)) rfl) hA
  obtain ⟨aP, eP, tP⟩ := va_Tof (tm := st_P) (ty := .int) (N := 11) (f := fun j => .int (sm_tab tPARTS j)) (A := fun q => s.heap.size ≤ q) (by decide) (hs (.arrayOf st_P .int) (by decide +kernel)) (st_eq (hs (.eq (.length st_P) (.int 11)) (by decide +kernel)) rfl) (fun j hj => st_eq (hs _ (st_mP j hj)) rfl) hA
  exact ⟨aF, aP, va_Zof (hts _ (List.mem_of_getElem? (i := 631) (by decide +kernel))) (hts _ (List.mem_of_getElem? (i := 112) (by decide +kernel))) eF hA, tF, va_Zof (hts _ (List.mem_of_getElem? (i := 522) (by decide +kernel))) (hts _ (List.mem_of_getElem? (i := 106) (by decide +kernel))) eP hA, tP⟩
theorem st_xk {args : Array Value} {s : State} (hs : ∀ w ∈ flatC (Jvm.Cond.and given_1 narrow_1), w.before args s = true) (hts : ∀ w ∈ lw_tbl, w.before args s = true) : xt_K (fun q => s.heap.size ≤ q) s s.heap := by
  have hA : ∀ a : Nat, a < s.heap.size → ¬ s.heap.size ≤ a := fun a h => Nat.not_le.mpr h
  have hL : ∀ w ∈ xt_L, w ∈ lw_tbl := by decide +kernel
  have hN : ∀ q ∈ xt_N, Cond.not (.castable q.1 q.2) ∈ flatC (Jvm.Cond.and given_1 narrow_1) := by decide +kernel
  have hO : ∀ w ∈ xt_L, w.onTables = true := by decide +kernel
  refine ⟨fun w hw => va_Nw.of (hO w hw) (hts w (hL w hw)), fun q hq => st_no (hs _ (hN q hq)), xt_Z.of (hts _ (List.mem_of_getElem? (i := 839) (by decide +kernel))) (hs _ (by decide +kernel)) hA, xt_Z.of (hts _ (List.mem_of_getElem? (i := 841) (by decide +kernel))) (hs _ (by decide +kernel)) hA⟩
theorem st_arr {args : Array Value} {s : State} {ty : FieldType} (h : (Cond.arrayClass ty).before args s = true) : ∃ cA, ArrOfT s cA ty ∧ s.vm.findClass ("[" ++ ty.toString) = some cA := by
  obtain ⟨cA, kA, comp, h1, h2, h3⟩ := Cond.arrayClass_spec h
  exact ⟨cA, fun n z => ⟨fun k h => (by cases h), kA, h2, comp, h3⟩, h1⟩
