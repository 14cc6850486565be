/-! the class's object: by program -/
def nc_ad (aF aP : Nat) (t1 t2 t3 t4 t5 t6 t7 t8 t9 : List Nat) (o : Nat) (p : Nat) : Nat := if p = 1000 then aF else if p = 1001 then aP else if p ≤ 8 then (0 :: t1).getD p 0 else if p ≤ 15 then t2.getD (p - 9) 0 else if p ≤ 17 then t3.getD (p - 16) 0 else if p ≤ 23 then t4.getD (p - 18) 0 else if p ≤ 30 then t5.getD (p - 24) 0 else if p ≤ 32 then t6.getD (p - 31) 0 else if p ≤ 39 then t7.getD (p - 33) 0 else if p ≤ 49 then t8.getD (p - 40) 0 else if p ≤ 59 then t9.getD (p - 50) 0 else if p = 60 then o else 0
def nc_M (M1 : sm_M) : sm_M := fun p => if p ≤ 8 then M1 p else if p = 25 then upd (fun _ => 0) ((0 : Int32).toNatClampNeg) (0) else if p = 26 then upd (fun _ => 0) ((0 : Int32).toNatClampNeg) (-1) else if p = 40 then (fun j => if j = 12 then -1 else 0) else if p = 50 then (fun j => if j = 12 then -1 else 0) else fun _ => 0
def nc_s2 : List sm_Sh := [(2, 2, [(1, 10), (1, 11), (1, 12), (1, 13), (1, 14), (1, 15), (0, 0)]), (0, 40, []), (0, 40, []), (0, 40, []), (0, 40, []), (0, 40, []), (0, 40, [])]
def nc_s3 : List sm_Sh := [(2, 3, [(1, 1), (1, 9), (1, 17), (0, 0)]), (0, 16, [])]
def nc_s4 : List sm_Sh := [(2, 4, [(1, 9), (1, 19), (1, 20), (1, 21), (0, 0), (1, 22), (1, 23), (0, 0), (0, 0), (3, 0)]), (0, 500, []), (0, 500, []), (0, 500, []), (0, 166, []), (0, 166, [])]
def nc_s5 : List sm_Sh := [(2, 5, [(1, 1), (1, 9), (1, 25), (1, 26), (1, 27), (0, 0), (1, 28), (1, 29), (1, 30), (0, 0), (2, 4)]), (0, 301, []), (0, 301, []), (1, 301, []), (0, 40, []), (0, 40, []), (0, 40, [])]
def nc_s6 : List sm_Sh := [(2, 6, [(1, 1), (1, 32), (2, 3)]), (0, 6, [])]
def nc_s7 : List sm_Sh := [(2, 7, [(1, 34), (1, 35), (1, 36), (1, 37), (1, 38), (1, 39), (0, 0), (2, 2), (0, 0), (0, 0), (0, 0)]), (0, 6, []), (0, 6, []), (0, 400, []), (0, 400, []), (0, 400, []), (0, 400, [])]
def nc_s8 : List sm_Sh := [(2, 8, [(1, 1), (1, 41), (1, 42), (1, 43), (1, 44), (1, 45), (0, 0), (1, 46), (1, 47), (1, 48), (1, 49), (0, 0), (0, 0), (3, 0), (0, 0), (3, 0)]), (0, 300, []), (0, 300, []), (0, 300, []), (0, 300, []), (0, 300, []), (0, 40, []), (0, 40, []), (0, 120, []), (0, 120, [])]
def nc_s9 : List sm_Sh := [(2, 8, [(1, 1), (1, 51), (1, 52), (1, 53), (1, 54), (1, 55), (0, 0), (1, 56), (1, 57), (1, 58), (1, 59), (0, 0), (0, 0), (3, 0), (0, 0), (3, 0)]), (0, 300, []), (0, 300, []), (0, 300, []), (0, 300, []), (0, 300, []), (0, 40, []), (0, 40, []), (0, 120, []), (0, 120, [])]
def nc_s10 : List sm_Sh := [(2, 0, [(1, 1), (1, 9), (1, 16), (1, 18), (1, 24), (1, 31), (1, 33), (2, 0), (2, 1)])]
theorem nc_cut : shC = shT ++ (nc_s2 ++ (nc_s3 ++ (nc_s4 ++ (nc_s5 ++ (nc_s6 ++ (nc_s7 ++ (nc_s8 ++ (nc_s9 ++ (nc_s10))))))))) := by decide +kernel
theorem ca_mpA {α β : Type} (f : Nat → α → β) : ∀ (a b : List α) (i : Nat), ca_mp f (a ++ b) i = ca_mp f a i ++ ca_mp f b (i + a.length)
  | [], b, i => rfl
  | x :: a, b, i => by
    show f i x :: ca_mp f (a ++ b) (i + 1) = f i x :: (ca_mp f a (i + 1) ++ ca_mp f b (i + (a.length + 1)))
    rw [ca_mpA f a b (i + 1), Nat.add_assoc, Nat.add_comm 1 a.length]
section
variable {Dg : va_G} {cI cZ : ClassId} {aF aP o o1 o2 o3 o4 o5 o6 o7 o8 o9 : Nat} {q1 q2 q3 q4 q5 q6 q7 q8 q9 : List Nat} {M1 : sm_M}
set_option maxRecDepth 100000 in
theorem nc_p1 : ca_mp (fun i h => (sm_ad (Dg, cI, cZ, nc_ad aF aP (o1 :: q1) (o2 :: q2) (o3 :: q3) (o4 :: q4) (o5 :: q5) (o6 :: q6) (o7 :: q7) (o8 :: q8) (o9 :: q9) o) (i + 1), sm_ce (Dg, cI, cZ, nc_ad aF aP (o1 :: q1) (o2 :: q2) (o3 :: q3) (o4 :: q4) (o5 :: q5) (o6 :: q6) (o7 :: q7) (o8 :: q8) (o9 :: q9) o) [40, 50, 0, 0, 0] (nc_M M1 (i + 1)) h)) shT 0 = sm_ws shT (cs_G Dg cI cZ aF aP (0 :: o1 :: q1)) [] M1 := by
  unfold sm_ws
  rw [ca_mi0]
  rfl
set_option maxRecDepth 100000 in
theorem nc_p2 : ca_mp (fun i h => (sm_ad (Dg, cI, cZ, nc_ad aF aP (o1 :: q1) (o2 :: q2) (o3 :: q3) (o4 :: q4) (o5 :: q5) (o6 :: q6) (o7 :: q7) (o8 :: q8) (o9 :: q9) o) (i + 1), sm_ce (Dg, cI, cZ, nc_ad aF aP (o1 :: q1) (o2 :: q2) (o3 :: q3) (o4 :: q4) (o5 :: q5) (o6 :: q6) (o7 :: q7) (o8 :: q8) (o9 :: q9) o) [40, 50, 0, 0, 0] (nc_M M1 (i + 1)) h)) nc_s2 8 = ke_Expressions cI cZ o2 q2 := rfl
set_option maxRecDepth 100000 in
theorem nc_p3 : ca_mp (fun i h => (sm_ad (Dg, cI, cZ, nc_ad aF aP (o1 :: q1) (o2 :: q2) (o3 :: q3) (o4 :: q4) (o5 :: q5) (o6 :: q6) (o7 :: q7) (o8 :: q8) (o9 :: q9) o) (i + 1), sm_ce (Dg, cI, cZ, nc_ad aF aP (o1 :: q1) (o2 :: q2) (o3 :: q3) (o4 :: q4) (o5 :: q5) (o6 :: q6) (o7 :: q7) (o8 :: q8) (o9 :: q9) o) [40, 50, 0, 0, 0] (nc_M M1 (i + 1)) h)) nc_s3 15 = ke_Typing cI cZ o3 o1 o2 q3 := rfl
set_option maxRecDepth 100000 in
theorem nc_p4 : ca_mp (fun i h => (sm_ad (Dg, cI, cZ, nc_ad aF aP (o1 :: q1) (o2 :: q2) (o3 :: q3) (o4 :: q4) (o5 :: q5) (o6 :: q6) (o7 :: q7) (o8 :: q8) (o9 :: q9) o) (i + 1), sm_ce (Dg, cI, cZ, nc_ad aF aP (o1 :: q1) (o2 :: q2) (o3 :: q3) (o4 :: q4) (o5 :: q5) (o6 :: q6) (o7 :: q7) (o8 :: q8) (o9 :: q9) o) [40, 50, 0, 0, 0] (nc_M M1 (i + 1)) h)) nc_s4 17 = ke_Evaluator cI cZ o4 o2 q4 := rfl
set_option maxRecDepth 100000 in
theorem nc_p5 : ca_mp (fun i h => (sm_ad (Dg, cI, cZ, nc_ad aF aP (o1 :: q1) (o2 :: q2) (o3 :: q3) (o4 :: q4) (o5 :: q5) (o6 :: q6) (o7 :: q7) (o8 :: q8) (o9 :: q9) o) (i + 1), sm_ce (Dg, cI, cZ, nc_ad aF aP (o1 :: q1) (o2 :: q2) (o3 :: q3) (o4 :: q4) (o5 :: q5) (o6 :: q6) (o7 :: q7) (o8 :: q8) (o9 :: q9) o) [40, 50, 0, 0, 0] (nc_M M1 (i + 1)) h)) nc_s5 23 = ke_CodeWriter cI cZ o5 o1 o2 q5 := rfl
set_option maxRecDepth 100000 in
theorem nc_p6 : ca_mp (fun i h => (sm_ad (Dg, cI, cZ, nc_ad aF aP (o1 :: q1) (o2 :: q2) (o3 :: q3) (o4 :: q4) (o5 :: q5) (o6 :: q6) (o7 :: q7) (o8 :: q8) (o9 :: q9) o) (i + 1), sm_ce (Dg, cI, cZ, nc_ad aF aP (o1 :: q1) (o2 :: q2) (o3 :: q3) (o4 :: q4) (o5 :: q5) (o6 :: q6) (o7 :: q7) (o8 :: q8) (o9 :: q9) o) [40, 50, 0, 0, 0] (nc_M M1 (i + 1)) h)) nc_s6 30 = ke_Checker cI cZ o6 o1 q6 := rfl
set_option maxRecDepth 100000 in
theorem nc_p7 : ca_mp (fun i h => (sm_ad (Dg, cI, cZ, nc_ad aF aP (o1 :: q1) (o2 :: q2) (o3 :: q3) (o4 :: q4) (o5 :: q5) (o6 :: q6) (o7 :: q7) (o8 :: q8) (o9 :: q9) o) (i + 1), sm_ce (Dg, cI, cZ, nc_ad aF aP (o1 :: q1) (o2 :: q2) (o3 :: q3) (o4 :: q4) (o5 :: q5) (o6 :: q6) (o7 :: q7) (o8 :: q8) (o9 :: q9) o) [40, 50, 0, 0, 0] (nc_M M1 (i + 1)) h)) nc_s7 32 = ke_Machine cI cZ o7 q7 := rfl
set_option maxRecDepth 100000 in
theorem nc_p8 : ca_mp (fun i h => (sm_ad (Dg, cI, cZ, nc_ad aF aP (o1 :: q1) (o2 :: q2) (o3 :: q3) (o4 :: q4) (o5 :: q5) (o6 :: q6) (o7 :: q7) (o8 :: q8) (o9 :: q9) o) (i + 1), sm_ce (Dg, cI, cZ, nc_ad aF aP (o1 :: q1) (o2 :: q2) (o3 :: q3) (o4 :: q4) (o5 :: q5) (o6 :: q6) (o7 :: q7) (o8 :: q8) (o9 :: q9) o) [40, 50, 0, 0, 0] (nc_M M1 (i + 1)) h)) nc_s8 39 = ke_Code cI cZ o8 o1 q8 := rfl
set_option maxRecDepth 100000 in
theorem nc_p9 : ca_mp (fun i h => (sm_ad (Dg, cI, cZ, nc_ad aF aP (o1 :: q1) (o2 :: q2) (o3 :: q3) (o4 :: q4) (o5 :: q5) (o6 :: q6) (o7 :: q7) (o8 :: q8) (o9 :: q9) o) (i + 1), sm_ce (Dg, cI, cZ, nc_ad aF aP (o1 :: q1) (o2 :: q2) (o3 :: q3) (o4 :: q4) (o5 :: q5) (o6 :: q6) (o7 :: q7) (o8 :: q8) (o9 :: q9) o) [40, 50, 0, 0, 0] (nc_M M1 (i + 1)) h)) nc_s9 49 = ke_Code cI cZ o9 o1 q9 := rfl
set_option maxRecDepth 100000 in
theorem nc_p10 : ca_mp (fun i h => (sm_ad (Dg, cI, cZ, nc_ad aF aP (o1 :: q1) (o2 :: q2) (o3 :: q3) (o4 :: q4) (o5 :: q5) (o6 :: q6) (o7 :: q7) (o8 :: q8) (o9 :: q9) o) (i + 1), sm_ce (Dg, cI, cZ, nc_ad aF aP (o1 :: q1) (o2 :: q2) (o3 :: q3) (o4 :: q4) (o5 :: q5) (o6 :: q6) (o7 :: q7) (o8 :: q8) (o9 :: q9) o) [40, 50, 0, 0, 0] (nc_M M1 (i + 1)) h)) nc_s10 59 = [(o, .inr (0, [.ref o1, .ref o2, .ref o3, .ref o4, .ref o5, .ref o6, .ref o7, .ref o8, .ref o9]))] := rfl
set_option maxRecDepth 100000 in
theorem nc_eq : sm_ws shC (Dg, cI, cZ, nc_ad aF aP (o1 :: q1) (o2 :: q2) (o3 :: q3) (o4 :: q4) (o5 :: q5) (o6 :: q6) (o7 :: q7) (o8 :: q8) (o9 :: q9) o) [40, 50, 0, 0, 0] (nc_M M1) = ((((((((([] ++ sm_ws shT (cs_G Dg cI cZ aF aP (0 :: o1 :: q1)) [] M1) ++ ke_Expressions cI cZ o2 q2) ++ ke_Typing cI cZ o3 o1 o2 q3) ++ ke_Evaluator cI cZ o4 o2 q4) ++ ke_CodeWriter cI cZ o5 o1 o2 q5) ++ ke_Checker cI cZ o6 o1 q6) ++ ke_Machine cI cZ o7 q7) ++ ke_Code cI cZ o8 o1 q8) ++ ke_Code cI cZ o9 o1 q9) ++ [(o, .inr (0, [.ref o1, .ref o2, .ref o3, .ref o4, .ref o5, .ref o6, .ref o7, .ref o8, .ref o9]))] := by
  rw [show sm_ws shC (Dg, cI, cZ, nc_ad aF aP (o1 :: q1) (o2 :: q2) (o3 :: q3) (o4 :: q4) (o5 :: q5) (o6 :: q6) (o7 :: q7) (o8 :: q8) (o9 :: q9) o) [40, 50, 0, 0, 0] (nc_M M1) = ca_mp (fun i h => (sm_ad (Dg, cI, cZ, nc_ad aF aP (o1 :: q1) (o2 :: q2) (o3 :: q3) (o4 :: q4) (o5 :: q5) (o6 :: q6) (o7 :: q7) (o8 :: q8) (o9 :: q9) o) (i + 1), sm_ce (Dg, cI, cZ, nc_ad aF aP (o1 :: q1) (o2 :: q2) (o3 :: q3) (o4 :: q4) (o5 :: q5) (o6 :: q6) (o7 :: q7) (o8 :: q8) (o9 :: q9) o) [40, 50, 0, 0, 0] (nc_M M1 (i + 1)) h)) shC 0 from ca_mi0 _ _, nc_cut]
  rw [ca_mpA, ca_mpA, ca_mpA, ca_mpA, ca_mpA, ca_mpA, ca_mpA, ca_mpA, ca_mpA]
  simp only [List.append_assoc, List.nil_append]
  rw [nc_p1]
  refine congrArg (HAppend.hAppend _) ?_
  refine congr (congrArg HAppend.hAppend nc_p2) ?_
  refine congr (congrArg HAppend.hAppend nc_p3) ?_
  refine congr (congrArg HAppend.hAppend nc_p4) ?_
  refine congr (congrArg HAppend.hAppend nc_p5) ?_
  refine congr (congrArg HAppend.hAppend nc_p6) ?_
  refine congr (congrArg HAppend.hAppend nc_p7) ?_
  refine congr (congrArg HAppend.hAppend nc_p8) ?_
  refine congr (congrArg HAppend.hAppend nc_p9) ?_
  exact nc_p10
end
def bgM (M : sm_M) : sm_M := sm_up (flM (flM (sm_up (sm_up (sm_up (sm_up M 33 8 0) 33 9 0) 33 6 0) 33 10 0) 34 6 0) 35 6 0) 34 1 1
theorem j_begin {p d0 d1 d2 d3 d4 : Nat} {M : sm_M} : jM_begin p d0 d1 d2 d3 d4 M = some (0, [d0, d1, p, d3, d4], bgM M) := by
  unfold jM_begin sm_wr
  rw [ga_in (by decide), j_fill (by decide), bi_some, dq_self, ga_in (by decide), j_fill (by decide), bi_some, dq_self]
  rfl
/-- the class's memory behind its constructor -/
def cls0 (M : sm_M) : Prop := ∃ M1 : sm_M, tabC M1 [tyN] ∧ M = bgM (nc_M M1)
theorem cs_sta.moved {aF aP : Nat} {A : Nat → Prop} {u U : State} {H : Heap} (hal : u.vm.Alike U.vm) (h : cs_sta aF aP A u H) : cs_sta aF aP A U H := ⟨h.1.moved hal, h.2.1.moved hal, h.2.2.1.moved hal, h.2.2.2.moved hal⟩
theorem cs_stag {aF aP : Nat} {A : Nat → Prop} {U : State} {H : Heap} {Dg : va_G} {cI cZ : ClassId} {ad : Nat → Nat} (h : cs_sta aF aP A U H) (h1 : ad 1000 = aF) (h2 : ad 1001 = aP) : sm_sta smSa (Dg, cI, cZ, ad) A U H := by
  intro q hq
  simp only [smSa, List.mem_cons, List.not_mem_nil, or_false] at hq
  rcases hq with rfl | rfl
  · show va_Z _ _ _ (.ref (ad 1000)) A U H ∧ va_T .int (ad 1000) _ _ A U H
    rw [h1]; exact ⟨h.1, h.2.1⟩
  · show va_Z _ _ _ (.ref (ad 1001)) A U H ∧ va_T .int (ad 1001) _ _ A U H
    rw [h2]; exact ⟨h.2.2.1, h.2.2.2⟩
def kw_C (o : Nat) : va_W := [(o, .inr (0, [.null, .null, .null, .null, .null, .null, .null, .null, .null]))]
set_option maxRecDepth 100000 in
set_option maxHeartbeats 16000000 in
theorem kt_TypedMill (l : Launch) (D : va_G) (cI cZ : ClassId) (aF aP o sz : Nat) : Met l ⟨"TypedMill", "<init>", "()V"⟩ (Cond.code ⟨"TypedMill", "<init>", "()V"⟩ prog_1_method_1_code 1 none :: smT) ({ frames := 5, cells := 59, slots := 13383, locals := 400 }) (va_Pc [.ref o] (fun U => U.heap.size = sz ∧ va_P D smCl (kw_C o) U.heap ∧ va_K D smCl [(cI, .int), (cZ, .boolean)] U ∧ va_D (fun _ => True) (kw_C o) ∧ cs_sta aF aP (va_A (kw_C o) sz) U U.heap ∧ va_Nw (.methodLinkNest "TypedMill" 18 ⟨"TypedMill$Expressions", "<init>", "()V"⟩ "TypedMill") U ∧ va_Nw (.methodLinkNest "TypedMill" 59 ⟨"TypedMill$Machine", "<init>", "()V"⟩ "TypedMill") U)) (va_Qv (fun u : (Nat → Nat) × sm_M => u.1 1000 = aF ∧ u.1 1001 = aP ∧ u.1 60 = o ∧ cls0 u.2) (fun u t => va_P D smCl (sm_ws shC (D, cI, cZ, u.1) [40, 50, 40, 0, 0] u.2) t.heap ∧ va_K D smCl [(cI, .int), (cZ, .boolean)] t ∧ va_D (va_A (kw_C o) sz) (sm_ws shC (D, cI, cZ, u.1) [40, 50, 40, 0, 0] u.2)) (va_A (kw_C o) sz)) 59 13383 (va_A (kw_C o) sz) := by
  refine Met.ofW (cc := prog_1_method_1_code) (maxL := 1) (ret := none) (ws' := smT) (by decide) rfl ?_
  intro p e s m args below meth c s₁ B hml hv
  obtain ⟨rfl, hsz, hP, hK, hD0, hst, hn1, hn2⟩ := hv
  have hx := B.exec
  have hb := B.bytes
  have hr := B.returns
  have hts0 := atoms_spec (ws := Cond.code ⟨"TypedMill", "<init>", "()V"⟩ prog_1_method_1_code 1 none :: smT) B.pre
  have hts : ∀ w ∈ smT, w.before _ s = true := fun w hw => hts0 w (List.mem_cons_of_mem _ hw)
  have hown : s.vm.findClass "TypedMill" = some m.cls := findClass_of_methodNamed B.named
  have hlocks := B.notSynchronized
  have hin : meth.name = "<init>" := (name_of_methodNamed B.named B.method).1
  subst hsz
  have hD := hD0.self (sz := s.heap.size)
  generalize hAe : va_A (kw_C o) s.heap.size = A at hD hst ⊢
  have hA : ∀ q : Nat, s.heap.size ≤ q → A q := fun q h => by rw [← hAe]; exact Or.inr h
  have hS : va_S A s.heap s.heap [] := va_S.rf
  have hP : va_P D smCl ((o, .inr (0, [.null, .null, .null, .null, .null, .null, .null, .null, .null])) :: []) s.heap := hP
  have hD : va_D A ((o, .inr (0, [.null, .null, .null, .null, .null, .null, .null, .null, .null])) :: []) := hD
  have hl := lv_entry ([.ref o]) (n := 1) (Nat.le_of_ble_eq_true rfl)
  rw [lg_entry_eq]
  generalize (lg_sl ([.ref o]) ++ List.replicate (1 - (lg_sl ([.ref o])).length) Slot.unset).toArray = ls at hl ⊢
  have hl : lv_has ls 1 [(0, .ref o)] := hl
  have hl0 := lv_at hl 0 rfl
  have X : cs_Cx prog_1_method_1_code "TypedMill" D cI cZ A s.heap p s m _ meth c := ⟨hx, hb, hts, hown, hK, hin, hA⟩
  refine lv_aload_n hx hb (show decode prog_1_method_1_code 0 = .ok (.aload_n 0, 1) by decide +kernel) rfl hl0 ?_
  refine W.objInit hx hb hown (hts (.methodLink "TypedMill" 1 objectInit) (sm_mem1 127 (by decide +kernel) (by decide +kernel))) (hts (.instanceMethod objectInit) (sm_mem1 128 (by decide +kernel) (by decide +kernel))) (hts (.code objectInit ⟨#[0xb1]⟩ 1 none) (sm_mem1 129 (by decide +kernel) (by decide +kernel))) rfl (by rw [hml]; exact hl.1) rfl (show decode prog_1_method_1_code 1 = .ok (.invokespecial 1, 3) by decide +kernel) (Nat.le_of_ble_eq_true rfl) (Nat.le_of_ble_eq_true rfl) ?_
  refine W.eq (g2 := F0 m 4 ls []) rfl ?_
  refine nk_obj (S := List Nat × sm_M) (k := 0) (ci := 1) (NX := 8) (ixN := 7) (ixC := 9) (ixF := 10) (p2 := 9) (ty := tY1) (zs := [.null, .null, .null, .null, .null, .null, .null, .int 0]) (As := []) (ke := fun q u => sm_ws shT (cs_G D cI cZ aF aP (0 :: q :: u.1)) [] u.2) (nL := 1) (pc := 4) X hml hl.1 hl0 hst hP hD hS rfl rfl tY1_ok (by decide +kernel) (sm_mem1 130 (by decide +kernel) (by decide +kernel)) (sm_mem1 131 (by decide +kernel) (by decide +kernel)) (sm_mem1 104 (by decide +kernel) (by decide +kernel)) rfl (sm_mem1 134 (by decide +kernel) (by decide +kernel)) (sm_mem1 133 (by decide +kernel) (by decide +kernel)) rfl (Or.inl (sm_mem1 132 (by decide +kernel) (by decide +kernel))) ⟨by decide +kernel, by decide +kernel, by decide +kernel⟩ rfl rfl ⟨Nat.le_of_ble_eq_true rfl, Nat.le_of_ble_eq_true rfl⟩ (Nat.le_of_ble_eq_true rfl) (Nat.le_of_ble_eq_true rfl) (fun q sz => kt_Types l D cI cZ aF aP q sz) (fun q sz a U g mk h => ⟨h.1, h.2.1, h.2.2.1, va_K.moved (u := U) (U := U.calling g mk a) (Vm.Alike.refl U.vm) h.2.2.2.1, h.2.2.2.2.1, cs_sta.moved (u := U) (U := U.calling g mk a) (Vm.Alike.refl U.vm) h.2.2.2.2.2⟩) (fun q H1 U hU hW h1 h2 h3 h4 => ⟨rfl, by rw [hU], h1, h2, h3, h4⟩) (by decide +kernel) (by decide +kernel) (by decide +kernel) (fun H9 ce9 sl9 w9 st9 hP9 h => h) (by decide +kernel) (by decide +kernel) (by decide) (sm_mem1 459 (by decide +kernel) (by decide +kernel)) rfl (by decide +kernel) ?_
  rintro o1 ⟨q1, M1⟩ H locs hpo1 hP hD hS
  replace hP : va_P D smCl ((o, .inr (0, _)) :: ([] ++ sm_ws shT (cs_G D cI cZ aF aP (0 :: o1 :: q1)) [] M1)) H := hP
  replace hD : va_D A ((o, .inr (0, _)) :: ([] ++ sm_ws shT (cs_G D cI cZ aF aP (0 :: o1 :: q1)) [] M1)) := hD
  refine W.eq (g2 := F0 m 15 ls []) rfl ?_
  refine nk_obj (S := List Nat) (k := 1) (ci := 2) (NX := 7) (ixN := 16) (ixC := 18) (ixF := 19) (p2 := 20) (ty := tY2) (zs := [.null, .null, .null, .null, .null, .null, .int 0]) (As := []) (ke := fun q u => ke_Expressions cI cZ q u) (nL := 1) (pc := 15) X hml hl.1 hl0 hst hP hD hS rfl rfl tY2_ok (by decide +kernel) (sm_mem1 186 (by decide +kernel) (by decide +kernel)) (sm_mem1 187 (by decide +kernel) (by decide +kernel)) (sm_mem1 106 (by decide +kernel) (by decide +kernel)) rfl (sm_mem1 190 (by decide +kernel) (by decide +kernel)) (sm_mem1 189 (by decide +kernel) (by decide +kernel)) rfl (Or.inr hn1) ⟨by decide +kernel, by decide +kernel, by decide +kernel⟩ rfl rfl ⟨Nat.le_of_ble_eq_true rfl, Nat.le_of_ble_eq_true rfl⟩ (Nat.le_of_ble_eq_true rfl) (Nat.le_of_ble_eq_true rfl) (fun q sz => kt_Expressions l D cI cZ q sz) (fun q sz a U g mk h => ⟨h.1, h.2.1, h.2.2.1, va_K.moved (u := U) (U := U.calling g mk a) (Vm.Alike.refl U.vm) h.2.2.2.1, h.2.2.2.2⟩) (fun q H1 U hU hW h1 h2 h3 h4 => ⟨rfl, by rw [hU], h1, h2, h3⟩) (by decide +kernel) (by decide +kernel) (by decide +kernel) (fun H9 ce9 sl9 w9 st9 hP9 h => h) (by decide +kernel) (by decide +kernel) (by decide) (sm_mem1 460 (by decide +kernel) (by decide +kernel)) rfl (by decide +kernel) ?_
  rintro o2 q2 H locs hpo2 hP hD hS
  refine W.eq (g2 := F0 m 26 ls []) rfl ?_
  refine nk_obj (S := List Nat) (k := 2) (ci := 3) (NX := 4) (ixN := 23) (ixC := 25) (ixF := 28) (p2 := 39) (ty := tY3) (zs := [.null, .null, .null, .int 0]) (As := [.ref o1, .ref o2]) (ke := fun q u => ke_Typing cI cZ q o1 o2 u) (nL := 1) (pc := 26) X hml hl.1 hl0 hst hP hD hS rfl rfl tY3_ok (by decide +kernel) (sm_mem1 229 (by decide +kernel) (by decide +kernel)) (sm_mem1 230 (by decide +kernel) (by decide +kernel)) (sm_mem1 107 (by decide +kernel) (by decide +kernel)) rfl (sm_mem1 233 (by decide +kernel) (by decide +kernel)) (sm_mem1 232 (by decide +kernel) (by decide +kernel)) rfl (Or.inl (sm_mem1 231 (by decide +kernel) (by decide +kernel))) ⟨by decide +kernel, by decide +kernel, by decide +kernel⟩ rfl rfl ⟨Nat.le_of_ble_eq_true rfl, Nat.le_of_ble_eq_true rfl⟩ (Nat.le_of_ble_eq_true rfl) (Nat.le_of_ble_eq_true rfl) (fun q sz => kt_Typing l D cI cZ q o1 o2 sz) (fun q sz a U g mk h => ⟨h.1, h.2.1, h.2.2.1, va_K.moved (u := U) (U := U.calling g mk a) (Vm.Alike.refl U.vm) h.2.2.2.1, h.2.2.2.2⟩) (fun q H1 U hU hW h1 h2 h3 h4 => ⟨rfl, by rw [hU], h1, h2, h3⟩) (by decide +kernel) (by decide +kernel) (by decide +kernel) (fun H9 ce9 sl9 w9 st9 hP9 h => nk_arg (k := 0) (ix := 10) X hl0 hP9 (by decide) rfl (sm_mem1 459 (by decide +kernel) (by decide +kernel)) rfl (by decide +kernel) (by decide +kernel) (nk_arg (k := 1) (ix := 19) X hl0 hP9 (by decide) rfl (sm_mem1 460 (by decide +kernel) (by decide +kernel)) rfl (by decide +kernel) (by decide +kernel) (h))) (by decide +kernel) (by decide +kernel) (by decide) (sm_mem1 461 (by decide +kernel) (by decide +kernel)) rfl (by decide +kernel) ?_
  rintro o3 q3 H locs hpo3 hP hD hS
  refine W.eq (g2 := F0 m 45 ls []) rfl ?_
  refine nk_obj (S := List Nat) (k := 3) (ci := 4) (NX := 10) (ixN := 32) (ixC := 34) (ixF := 37) (p2 := 54) (ty := tY4) (zs := [.null, .null, .null, .null, .int 0, .null, .null, .int 0, .int 0, .int 0]) (As := [.ref o2]) (ke := fun q u => ke_Evaluator cI cZ q o2 u) (nL := 1) (pc := 45) X hml hl.1 hl0 hst hP hD hS rfl rfl tY4_ok (by decide +kernel) (sm_mem1 248 (by decide +kernel) (by decide +kernel)) (sm_mem1 249 (by decide +kernel) (by decide +kernel)) (sm_mem1 108 (by decide +kernel) (by decide +kernel)) rfl (sm_mem1 252 (by decide +kernel) (by decide +kernel)) (sm_mem1 251 (by decide +kernel) (by decide +kernel)) rfl (Or.inl (sm_mem1 250 (by decide +kernel) (by decide +kernel))) ⟨by decide +kernel, by decide +kernel, by decide +kernel⟩ rfl rfl ⟨Nat.le_of_ble_eq_true rfl, Nat.le_of_ble_eq_true rfl⟩ (Nat.le_of_ble_eq_true rfl) (Nat.le_of_ble_eq_true rfl) (fun q sz => kt_Evaluator l D cI cZ q o2 sz) (fun q sz a U g mk h => ⟨h.1, h.2.1, h.2.2.1, va_K.moved (u := U) (U := U.calling g mk a) (Vm.Alike.refl U.vm) h.2.2.2.1, h.2.2.2.2⟩) (fun q H1 U hU hW h1 h2 h3 h4 => ⟨rfl, by rw [hU], h1, h2, h3⟩) (by decide +kernel) (by decide +kernel) (by decide +kernel) (fun H9 ce9 sl9 w9 st9 hP9 h => nk_arg (k := 1) (ix := 19) X hl0 hP9 (by decide) rfl (sm_mem1 460 (by decide +kernel) (by decide +kernel)) rfl (by decide +kernel) (by decide +kernel) (h)) (by decide +kernel) (by decide +kernel) (by decide) (sm_mem1 462 (by decide +kernel) (by decide +kernel)) rfl (by decide +kernel) ?_
  rintro o4 q4 H locs hpo4 hP hD hS
  refine W.eq (g2 := F0 m 60 ls []) rfl ?_
  refine nk_obj (S := List Nat) (k := 4) (ci := 5) (NX := 11) (ixN := 41) (ixC := 43) (ixF := 44) (p2 := 73) (ty := tY5) (zs := [.null, .null, .null, .null, .null, .int 0, .null, .null, .null, .int 0, .null]) (As := [.ref o1, .ref o2]) (ke := fun q u => ke_CodeWriter cI cZ q o1 o2 u) (nL := 1) (pc := 60) X hml hl.1 hl0 hst hP hD hS rfl rfl tY5_ok (by decide +kernel) (sm_mem1 287 (by decide +kernel) (by decide +kernel)) (sm_mem1 288 (by decide +kernel) (by decide +kernel)) (sm_mem1 109 (by decide +kernel) (by decide +kernel)) rfl (sm_mem1 291 (by decide +kernel) (by decide +kernel)) (sm_mem1 290 (by decide +kernel) (by decide +kernel)) rfl (Or.inl (sm_mem1 289 (by decide +kernel) (by decide +kernel))) ⟨by decide +kernel, by decide +kernel, by decide +kernel⟩ rfl rfl ⟨Nat.le_of_ble_eq_true rfl, Nat.le_of_ble_eq_true rfl⟩ (Nat.le_of_ble_eq_true rfl) (Nat.le_of_ble_eq_true rfl) (fun q sz => kt_CodeWriter l D cI cZ q o1 o2 sz) (fun q sz a U g mk h => ⟨h.1, h.2.1, h.2.2.1, va_K.moved (u := U) (U := U.calling g mk a) (Vm.Alike.refl U.vm) h.2.2.2.1, h.2.2.2.2⟩) (fun q H1 U hU hW h1 h2 h3 h4 => ⟨rfl, by rw [hU], h1, h2, h3⟩) (by decide +kernel) (by decide +kernel) (by decide +kernel) (fun H9 ce9 sl9 w9 st9 hP9 h => nk_arg (k := 0) (ix := 10) X hl0 hP9 (by decide) rfl (sm_mem1 459 (by decide +kernel) (by decide +kernel)) rfl (by decide +kernel) (by decide +kernel) (nk_arg (k := 1) (ix := 19) X hl0 hP9 (by decide) rfl (sm_mem1 460 (by decide +kernel) (by decide +kernel)) rfl (by decide +kernel) (by decide +kernel) (h))) (by decide +kernel) (by decide +kernel) (by decide) (sm_mem1 463 (by decide +kernel) (by decide +kernel)) rfl (by decide +kernel) ?_
  rintro o5 q5 H locs hpo5 hP hD hS
  refine W.eq (g2 := F0 m 79 ls []) rfl ?_
  refine nk_obj (S := List Nat) (k := 5) (ci := 6) (NX := 3) (ixN := 48) (ixC := 50) (ixF := 53) (p2 := 88) (ty := tY6) (zs := [.null, .null, .null]) (As := [.ref o1]) (ke := fun q u => ke_Checker cI cZ q o1 u) (nL := 1) (pc := 79) X hml hl.1 hl0 hst hP hD hS rfl rfl tY6_ok (by decide +kernel) (sm_mem1 328 (by decide +kernel) (by decide +kernel)) (sm_mem1 329 (by decide +kernel) (by decide +kernel)) (sm_mem1 110 (by decide +kernel) (by decide +kernel)) rfl (sm_mem1 332 (by decide +kernel) (by decide +kernel)) (sm_mem1 331 (by decide +kernel) (by decide +kernel)) rfl (Or.inl (sm_mem1 330 (by decide +kernel) (by decide +kernel))) ⟨by decide +kernel, by decide +kernel, by decide +kernel⟩ rfl rfl ⟨Nat.le_of_ble_eq_true rfl, Nat.le_of_ble_eq_true rfl⟩ (Nat.le_of_ble_eq_true rfl) (Nat.le_of_ble_eq_true rfl) (fun q sz => kt_Checker l D cI cZ q o1 sz) (fun q sz a U g mk h => ⟨h.1, h.2.1, h.2.2.1, va_K.moved (u := U) (U := U.calling g mk a) (Vm.Alike.refl U.vm) h.2.2.2.1, h.2.2.2.2⟩) (fun q H1 U hU hW h1 h2 h3 h4 => ⟨rfl, by rw [hU], h1, h2, h3⟩) (by decide +kernel) (by decide +kernel) (by decide +kernel) (fun H9 ce9 sl9 w9 st9 hP9 h => nk_arg (k := 0) (ix := 10) X hl0 hP9 (by decide) rfl (sm_mem1 459 (by decide +kernel) (by decide +kernel)) rfl (by decide +kernel) (by decide +kernel) (h)) (by decide +kernel) (by decide +kernel) (by decide) (sm_mem1 464 (by decide +kernel) (by decide +kernel)) rfl (by decide +kernel) ?_
  rintro o6 q6 H locs hpo6 hP hD hS
  refine W.eq (g2 := F0 m 94 ls []) rfl ?_
  refine nk_obj (S := List Nat) (k := 6) (ci := 7) (NX := 11) (ixN := 57) (ixC := 59) (ixF := 60) (p2 := 99) (ty := tY7) (zs := [.null, .null, .null, .null, .null, .null, .int 0, .null, .int 0, .int 0, .int 0]) (As := []) (ke := fun q u => ke_Machine cI cZ q u) (nL := 1) (pc := 94) X hml hl.1 hl0 hst hP hD hS rfl rfl tY7_ok (by decide +kernel) (sm_mem1 344 (by decide +kernel) (by decide +kernel)) (sm_mem1 345 (by decide +kernel) (by decide +kernel)) (sm_mem1 111 (by decide +kernel) (by decide +kernel)) rfl (sm_mem1 348 (by decide +kernel) (by decide +kernel)) (sm_mem1 347 (by decide +kernel) (by decide +kernel)) rfl (Or.inr hn2) ⟨by decide +kernel, by decide +kernel, by decide +kernel⟩ rfl rfl ⟨Nat.le_of_ble_eq_true rfl, Nat.le_of_ble_eq_true rfl⟩ (Nat.le_of_ble_eq_true rfl) (Nat.le_of_ble_eq_true rfl) (fun q sz => kt_Machine l D cI cZ q sz) (fun q sz a U g mk h => ⟨h.1, h.2.1, h.2.2.1, va_K.moved (u := U) (U := U.calling g mk a) (Vm.Alike.refl U.vm) h.2.2.2.1, h.2.2.2.2⟩) (fun q H1 U hU hW h1 h2 h3 h4 => ⟨rfl, by rw [hU], h1, h2, h3⟩) (by decide +kernel) (by decide +kernel) (by decide +kernel) (fun H9 ce9 sl9 w9 st9 hP9 h => h) (by decide +kernel) (by decide +kernel) (by decide) (sm_mem1 465 (by decide +kernel) (by decide +kernel)) rfl (by decide +kernel) ?_
  rintro o7 q7 H locs hpo7 hP hD hS
  refine W.eq (g2 := F0 m 105 ls []) rfl ?_
  refine nk_obj (S := List Nat) (k := 7) (ci := 8) (NX := 16) (ixN := 64) (ixC := 66) (ixF := 67) (p2 := 114) (ty := tY8) (zs := [.null, .null, .null, .null, .null, .null, .int 0, .null, .null, .null, .null, .int 0, .int 0, .int 0, .int 0, .int 0]) (As := [.ref o1]) (ke := fun q u => ke_Code cI cZ q o1 u) (nL := 1) (pc := 105) X hml hl.1 hl0 hst hP hD hS rfl rfl tY8_ok (by decide +kernel) (sm_mem1 385 (by decide +kernel) (by decide +kernel)) (sm_mem1 386 (by decide +kernel) (by decide +kernel)) (sm_mem1 112 (by decide +kernel) (by decide +kernel)) rfl (sm_mem1 389 (by decide +kernel) (by decide +kernel)) (sm_mem1 388 (by decide +kernel) (by decide +kernel)) rfl (Or.inl (sm_mem1 387 (by decide +kernel) (by decide +kernel))) ⟨by decide +kernel, by decide +kernel, by decide +kernel⟩ rfl rfl ⟨Nat.le_of_ble_eq_true rfl, Nat.le_of_ble_eq_true rfl⟩ (Nat.le_of_ble_eq_true rfl) (Nat.le_of_ble_eq_true rfl) (fun q sz => kt_Code l D cI cZ q o1 sz) (fun q sz a U g mk h => ⟨h.1, h.2.1, h.2.2.1, va_K.moved (u := U) (U := U.calling g mk a) (Vm.Alike.refl U.vm) h.2.2.2.1, h.2.2.2.2⟩) (fun q H1 U hU hW h1 h2 h3 h4 => ⟨rfl, by rw [hU], h1, h2, h3⟩) (by decide +kernel) (by decide +kernel) (by decide +kernel) (fun H9 ce9 sl9 w9 st9 hP9 h => nk_arg (k := 0) (ix := 10) X hl0 hP9 (by decide) rfl (sm_mem1 459 (by decide +kernel) (by decide +kernel)) rfl (by decide +kernel) (by decide +kernel) (h)) (by decide +kernel) (by decide +kernel) (by decide) (sm_mem1 466 (by decide +kernel) (by decide +kernel)) rfl (by decide +kernel) ?_
  rintro o8 q8 H locs hpo8 hP hD hS
  refine W.eq (g2 := F0 m 120 ls []) rfl ?_
  refine nk_obj (S := List Nat) (k := 8) (ci := 8) (NX := 16) (ixN := 64) (ixC := 66) (ixF := 71) (p2 := 129) (ty := tY8) (zs := [.null, .null, .null, .null, .null, .null, .int 0, .null, .null, .null, .null, .int 0, .int 0, .int 0, .int 0, .int 0]) (As := [.ref o1]) (ke := fun q u => ke_Code cI cZ q o1 u) (nL := 1) (pc := 120) X hml hl.1 hl0 hst hP hD hS rfl rfl tY8_ok (by decide +kernel) (sm_mem1 385 (by decide +kernel) (by decide +kernel)) (sm_mem1 386 (by decide +kernel) (by decide +kernel)) (sm_mem1 112 (by decide +kernel) (by decide +kernel)) rfl (sm_mem1 389 (by decide +kernel) (by decide +kernel)) (sm_mem1 388 (by decide +kernel) (by decide +kernel)) rfl (Or.inl (sm_mem1 387 (by decide +kernel) (by decide +kernel))) ⟨by decide +kernel, by decide +kernel, by decide +kernel⟩ rfl rfl ⟨Nat.le_of_ble_eq_true rfl, Nat.le_of_ble_eq_true rfl⟩ (Nat.le_of_ble_eq_true rfl) (Nat.le_of_ble_eq_true rfl) (fun q sz => kt_Code l D cI cZ q o1 sz) (fun q sz a U g mk h => ⟨h.1, h.2.1, h.2.2.1, va_K.moved (u := U) (U := U.calling g mk a) (Vm.Alike.refl U.vm) h.2.2.2.1, h.2.2.2.2⟩) (fun q H1 U hU hW h1 h2 h3 h4 => ⟨rfl, by rw [hU], h1, h2, h3⟩) (by decide +kernel) (by decide +kernel) (by decide +kernel) (fun H9 ce9 sl9 w9 st9 hP9 h => nk_arg (k := 0) (ix := 10) X hl0 hP9 (by decide) rfl (sm_mem1 459 (by decide +kernel) (by decide +kernel)) rfl (by decide +kernel) (by decide +kernel) (h)) (by decide +kernel) (by decide +kernel) (by decide) (sm_mem1 467 (by decide +kernel) (by decide +kernel)) rfl (by decide +kernel) ?_
  rintro o9 q9 H locs hpo9 hP hD hS
  refine W.eq (g2 := F0 m 135 ls []) rfl ?_
  obtain ⟨G, hGe⟩ : ∃ G : sm_G, ((D, cI, cZ, nc_ad aF aP (o1 :: q1) (o2 :: q2) (o3 :: q3) (o4 :: q4) (o5 :: q5) (o6 :: q6) (o7 :: q7) (o8 :: q8) (o9 :: q9) o) : sm_G) = G := ⟨_, rfl⟩
  have eP : va_P D smCl (sm_ws shC G [40, 50, 0, 0, 0] (nc_M M1)) H := by rw [← hGe, nc_eq]; exact nk_rotP (a := [_]) hP
  have hD : va_D A (sm_ws shC G [40, 50, 0, 0, 0] (nc_M M1)) := by rw [← hGe, nc_eq]; exact nk_rotD (a := [_]) hD
  clear hP
  have e1 : G.1 = D := by rw [← hGe]
  have hP : va_P G.1 smCl (sm_ws shC G [40, 50, 0, 0, 0] (nc_M M1)) H := by rw [e1]; exact eP
  have eK : va_K G.1 smCl (sm_tys G) s := by rw [← hGe]; exact hK
  have eG : sm_sta smSa G A s s.heap := by rw [← hGe]; exact cs_stag hst rfl rfl
  have eo : sm_ad G (59 + 1) = o := by rw [← hGe]; rfl
  have hl1 : ls[0]? = some (.val (.ref (sm_ad G (59 + 1)))) := by rw [eo]; exact hl0
  refine lv_aload_n hx hb (show decode prog_1_method_1_code 135 = .ok (.aload_n 0, 1) by decide +kernel) rfl hl1 ?_
  refine hs_get (j := 59) (k := 6) (a := 1) (b := 33) (C := "TypedMill") (T := tF0) (nF := 9) hx hb hown hts eK hP rfl rfl rfl (by decide) (sm_mem1 465 (by decide +kernel) (by decide +kernel)) rfl (show decode prog_1_method_1_code 136 = .ok (.getfield 60, 3) by decide +kernel) ?_
  refine lv_aload_n hx hb (show decode prog_1_method_1_code 139 = .ok (.aload_n 0, 1) by decide +kernel) rfl hl1 ?_
  refine hs_get (j := 59) (k := 7) (a := 2) (b := 0) (C := "TypedMill") (T := tF0) (nF := 9) hx hb hown hts eK hP rfl rfl rfl (by decide) (sm_mem1 466 (by decide +kernel) (by decide +kernel)) rfl (show decode prog_1_method_1_code 140 = .ok (.getfield 67, 3) by decide +kernel) ?_
  refine W.eq (g2 := F0 m 143 ls ((([.ref 40] : List Value).map (sm_cz (sm_ad G))).reverse ++ .ref (sm_ad G (32 + 1)) :: [])) rfl ?_
  refine wc_V (wr := []) (d := 1) (ix := 74) (j := 32) hx hb hml hown hts (m138 (by decide) j_begin) pq138 (sm_mem1 454 (by decide +kernel) (by decide +kernel)) (sm_mem1 455 (by decide +kernel) (by decide +kernel)) (sm_mem1 456 (by decide +kernel) (by decide +kernel)) (T := tF7) (N := 11) rfl rfl eK (by rw [List.append_nil]; exact hP) (by rw [List.append_nil]; exact hD) hS hA eG (Nat.le_of_ble_eq_true rfl) (Nat.le_of_ble_eq_true rfl) (Nat.le_of_ble_eq_true rfl) (Nat.le_of_ble_eq_true rfl) hl.1 rfl (by decide) (by decide +kernel) (fun H locs hP hD hS => ?_)
  rw [List.append_nil] at hP hD
  refine W.eq (g2 := F0 m 146 ls []) rfl ?_
  rw [e1] at hP
  subst hGe
  exact W.vret hx hb hr (fun t ht hW => ⟨⟨(_, _), rfl, ⟨rfl, rfl, rfl, M1, hpo1.2, rfl⟩, by rw [ht]; exact hP, va_K.moved hW.alike hK, hD⟩, hS.F ht⟩) hS.2.2 (by decide +kernel)
