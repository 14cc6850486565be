/-! constructors: by program -/
def ke_Expressions (cI cZ : ClassId) (o : Nat) (as : List Nat) : va_W := [(o, .inr (2, [.ref (as.getD 0 0), .ref (as.getD 1 0), .ref (as.getD 2 0), .ref (as.getD 3 0), .ref (as.getD 4 0), .ref (as.getD 5 0), .int 0])), (as.getD 0 0, .inl (cI, 40, .inl (fun _ => 0))), (as.getD 1 0, .inl (cI, 40, .inl (fun _ => 0))), (as.getD 2 0, .inl (cI, 40, .inl (fun _ => 0))), (as.getD 3 0, .inl (cI, 40, .inl (fun _ => 0))), (as.getD 4 0, .inl (cI, 40, .inl (fun _ => 0))), (as.getD 5 0, .inl (cI, 40, .inl (fun _ => 0)))]
set_option maxRecDepth 100000 in
set_option maxHeartbeats 4000000 in
theorem kt_Expressions (l : Launch) (D : va_G) (cI cZ : ClassId) (o : Nat) (sz : Nat) : Met l ⟨"TypedMill$Expressions", "<init>", "()V"⟩ (Cond.code ⟨"TypedMill$Expressions", "<init>", "()V"⟩ prog_6_method_1_code 1 none :: smT) ({ frames := 1, cells := 6, slots := 240, locals := 64 }) (va_Pc [.ref o] (fun U => U.heap.size = sz ∧ va_P D smCl [(o, .inr (2, [.null, .null, .null, .null, .null, .null, .int 0]))] U.heap ∧ va_K D smCl [(cI, .int), (cZ, .boolean)] U ∧ va_D (fun _ => True) [(o, .inr (2, [.null, .null, .null, .null, .null, .null, .int 0]))])) (va_Qv (fun as : List Nat => as.length = 6) (fun as t => va_P D smCl (ke_Expressions cI cZ o  as) t.heap ∧ va_K D smCl [(cI, .int), (cZ, .boolean)] t ∧ va_D (va_A [(o, .inr (2, [.null, .null, .null, .null, .null, .null, .int 0]))] sz) (ke_Expressions cI cZ o  as)) (va_A [(o, .inr (2, [.null, .null, .null, .null, .null, .null, .int 0]))] sz)) 6 240 (va_A [(o, .inr (2, [.null, .null, .null, .null, .null, .null, .int 0]))] sz) := by
  refine Met.ofW (cc := prog_6_method_1_code) (maxL := 1) (ret := none) (ws' := smT) (by decide) rfl ?_
  intro p e s m args below meth c s₁ B hml hv
  obtain ⟨rfl, hsz, hP, hK, hD0⟩ := hv
  have hx := B.exec
  have hb := B.bytes
  have hr := B.returns
  have hts0 := atoms_spec (ws := Cond.code ⟨"TypedMill$Expressions", "<init>", "()V"⟩ prog_6_method_1_code 1 none :: smT) B.pre
  have hts : ∀ w ∈ smT, w.before _ s = true := fun w hw => hts0 w (List.mem_cons_of_mem _ hw)
  have hown : s.vm.findClass "TypedMill$Expressions" = some m.cls := findClass_of_methodNamed B.named
  have hlocks := B.notSynchronized
  have hin : meth.name = "<init>" := (name_of_methodNamed B.named B.method).1
  subst hsz
  have hD := hD0.self (sz := s.heap.size)
  generalize hAe : va_A [(o, .inr (2, [.null, .null, .null, .null, .null, .null, .int 0]))] s.heap.size = A at hD ⊢
  have hA : ∀ q : Nat, s.heap.size ≤ q → A q := fun q h => by rw [← hAe]; exact Or.inr h
  have hS : va_S A s.heap s.heap [] := va_S.rf
  have hl := lv_entry ([.ref o]) (n := 1) (Nat.le_of_ble_eq_true rfl)
  rw [lg_entry_eq]
  generalize (lg_sl ([.ref o]) ++ List.replicate (1 - (lg_sl ([.ref o])).length) Slot.unset).toArray = ls at hl ⊢
  have hl : lv_has ls 1 [(0, .ref o)] := hl
  have X : cs_Cx prog_6_method_1_code "TypedMill$Expressions" D cI cZ A s.heap p s m _ meth c := ⟨hx, hb, hts, hown, hK, hin, hA⟩
  refine lv_aload_n hx hb (show decode prog_6_method_1_code 0 = .ok (.aload_n 0, 1) by decide +kernel) rfl (lv_at hl 0 rfl) ?_
  refine W.objInit hx hb hown (hts (.methodLink "TypedMill$Expressions" 3 objectInit) (sm_mem1 191 (by decide +kernel) (by decide +kernel))) (hts (.instanceMethod objectInit) (sm_mem1 128 (by decide +kernel) (by decide +kernel))) (hts (.code objectInit ⟨#[0xb1]⟩ 1 none) (sm_mem1 129 (by decide +kernel) (by decide +kernel))) rfl (by rw [hml]; exact hl.1) rfl (show decode prog_6_method_1_code 1 = .ok (.invokespecial 3, 3) by decide +kernel) (Nat.le_of_ble_eq_true rfl) (Nat.le_of_ble_eq_true rfl) ?_
  refine W.eq (g2 := F0 m 4 ls []) rfl ?_
  refine cs_arr (z := false) (n := 40) (ni := 40) (k := 0) (p2 := 7) (idx := 11) X hP hD hS (lv_at hl 0 rfl) (by decide +kernel) (by decide +kernel) (by decide +kernel) (fun st h => lv_bipush (n := 40) hx hb (by decide +kernel) (by decide) h) (by decide) (by decide) (by decide) (Nat.le_of_ble_eq_true rfl) (Nat.le_of_ble_eq_true rfl) rfl (by decide) rfl (sm_mem1 192 (by decide +kernel) (by decide +kernel)) rfl rfl (by decide +kernel) (sm_mem1 185 (by decide +kernel) (by decide +kernel)) (fun q1 H locs hP hD hS => ?_)
  refine cs_arr (z := false) (n := 40) (ni := 40) (k := 1) (p2 := 15) (idx := 15) X hP hD hS (lv_at hl 0 rfl) (by decide +kernel) (by decide +kernel) (by decide +kernel) (fun st h => lv_bipush (n := 40) hx hb (by decide +kernel) (by decide) h) (by decide) (by decide) (by decide) (Nat.le_of_ble_eq_true rfl) (Nat.le_of_ble_eq_true rfl) rfl (by decide) rfl (sm_mem1 196 (by decide +kernel) (by decide +kernel)) rfl rfl (by decide +kernel) (sm_mem1 185 (by decide +kernel) (by decide +kernel)) (fun q2 H locs hP hD hS => ?_)
  refine cs_arr (z := false) (n := 40) (ni := 40) (k := 2) (p2 := 23) (idx := 18) X hP hD hS (lv_at hl 0 rfl) (by decide +kernel) (by decide +kernel) (by decide +kernel) (fun st h => lv_bipush (n := 40) hx hb (by decide +kernel) (by decide) h) (by decide) (by decide) (by decide) (Nat.le_of_ble_eq_true rfl) (Nat.le_of_ble_eq_true rfl) rfl (by decide) rfl (sm_mem1 200 (by decide +kernel) (by decide +kernel)) rfl rfl (by decide +kernel) (sm_mem1 185 (by decide +kernel) (by decide +kernel)) (fun q3 H locs hP hD hS => ?_)
  refine cs_arr (z := false) (n := 40) (ni := 40) (k := 3) (p2 := 31) (idx := 21) X hP hD hS (lv_at hl 0 rfl) (by decide +kernel) (by decide +kernel) (by decide +kernel) (fun st h => lv_bipush (n := 40) hx hb (by decide +kernel) (by decide) h) (by decide) (by decide) (by decide) (Nat.le_of_ble_eq_true rfl) (Nat.le_of_ble_eq_true rfl) rfl (by decide) rfl (sm_mem1 204 (by decide +kernel) (by decide +kernel)) rfl rfl (by decide +kernel) (sm_mem1 185 (by decide +kernel) (by decide +kernel)) (fun q4 H locs hP hD hS => ?_)
  refine cs_arr (z := false) (n := 40) (ni := 40) (k := 4) (p2 := 39) (idx := 24) X hP hD hS (lv_at hl 0 rfl) (by decide +kernel) (by decide +kernel) (by decide +kernel) (fun st h => lv_bipush (n := 40) hx hb (by decide +kernel) (by decide) h) (by decide) (by decide) (by decide) (Nat.le_of_ble_eq_true rfl) (Nat.le_of_ble_eq_true rfl) rfl (by decide) rfl (sm_mem1 208 (by decide +kernel) (by decide +kernel)) rfl rfl (by decide +kernel) (sm_mem1 185 (by decide +kernel) (by decide +kernel)) (fun q5 H locs hP hD hS => ?_)
  refine cs_arr (z := false) (n := 40) (ni := 40) (k := 5) (p2 := 47) (idx := 27) X hP hD hS (lv_at hl 0 rfl) (by decide +kernel) (by decide +kernel) (by decide +kernel) (fun st h => lv_bipush (n := 40) hx hb (by decide +kernel) (by decide) h) (by decide) (by decide) (by decide) (Nat.le_of_ble_eq_true rfl) (Nat.le_of_ble_eq_true rfl) rfl (by decide) rfl (sm_mem1 212 (by decide +kernel) (by decide +kernel)) rfl rfl (by decide +kernel) (sm_mem1 185 (by decide +kernel) (by decide +kernel)) (fun q6 H locs hP hD hS => ?_)
  exact W.vret hx hb hr (fun t ht hW => ⟨⟨[q1, q2, q3, q4, q5, q6], rfl, rfl, by rw [ht]; exact hP, va_K.moved hW.alike hK, hD⟩, hS.F ht⟩) hS.2.2 (by decide +kernel)
def ke_Typing (cI cZ : ClassId) (o : Nat) (r1 r2 : Nat) (as : List Nat) : va_W := [(o, .inr (3, [.ref r1, .ref r2, .ref (as.getD 0 0), .int 0])), (as.getD 0 0, .inl (cI, 16, .inl (fun _ => 0)))]
set_option maxRecDepth 100000 in
set_option maxHeartbeats 4000000 in
theorem kt_Typing (l : Launch) (D : va_G) (cI cZ : ClassId) (o : Nat) (r1 r2 : Nat) (sz : Nat) : Met l ⟨"TypedMill$Typing", "<init>", "(LTypedMill$Types;LTypedMill$Expressions;)V"⟩ (Cond.code ⟨"TypedMill$Typing", "<init>", "(LTypedMill$Types;LTypedMill$Expressions;)V"⟩ prog_9_method_1_code 3 none :: smT) ({ frames := 1, cells := 1, slots := 16, locals := 64 }) (va_Pc [.ref o, .ref r1, .ref r2] (fun U => U.heap.size = sz ∧ va_P D smCl [(o, .inr (3, [.null, .null, .null, .int 0]))] U.heap ∧ va_K D smCl [(cI, .int), (cZ, .boolean)] U ∧ va_D (fun _ => True) [(o, .inr (3, [.null, .null, .null, .int 0]))])) (va_Qv (fun as : List Nat => as.length = 1) (fun as t => va_P D smCl (ke_Typing cI cZ o r1 r2 as) t.heap ∧ va_K D smCl [(cI, .int), (cZ, .boolean)] t ∧ va_D (va_A [(o, .inr (3, [.null, .null, .null, .int 0]))] sz) (ke_Typing cI cZ o r1 r2 as)) (va_A [(o, .inr (3, [.null, .null, .null, .int 0]))] sz)) 1 16 (va_A [(o, .inr (3, [.null, .null, .null, .int 0]))] sz) := by
  refine Met.ofW (cc := prog_9_method_1_code) (maxL := 3) (ret := none) (ws' := smT) (by decide) rfl ?_
  intro p e s m args below meth c s₁ B hml hv
  obtain ⟨rfl, hsz, hP, hK, hD0⟩ := hv
  have hx := B.exec
  have hb := B.bytes
  have hr := B.returns
  have hts0 := atoms_spec (ws := Cond.code ⟨"TypedMill$Typing", "<init>", "(LTypedMill$Types;LTypedMill$Expressions;)V"⟩ prog_9_method_1_code 3 none :: smT) B.pre
  have hts : ∀ w ∈ smT, w.before _ s = true := fun w hw => hts0 w (List.mem_cons_of_mem _ hw)
  have hown : s.vm.findClass "TypedMill$Typing" = some m.cls := findClass_of_methodNamed B.named
  have hlocks := B.notSynchronized
  have hin : meth.name = "<init>" := (name_of_methodNamed B.named B.method).1
  subst hsz
  have hD := hD0.self (sz := s.heap.size)
  generalize hAe : va_A [(o, .inr (3, [.null, .null, .null, .int 0]))] s.heap.size = A at hD ⊢
  have hA : ∀ q : Nat, s.heap.size ≤ q → A q := fun q h => by rw [← hAe]; exact Or.inr h
  have hS : va_S A s.heap s.heap [] := va_S.rf
  have hl := lv_entry ([.ref o, .ref r1, .ref r2]) (n := 3) (Nat.le_of_ble_eq_true rfl)
  rw [lg_entry_eq]
  generalize (lg_sl ([.ref o, .ref r1, .ref r2]) ++ List.replicate (3 - (lg_sl ([.ref o, .ref r1, .ref r2])).length) Slot.unset).toArray = ls at hl ⊢
  have hl : lv_has ls 3 [(0, .ref o), (1, .ref r1), (2, .ref r2)] := hl
  have X : cs_Cx prog_9_method_1_code "TypedMill$Typing" D cI cZ A s.heap p s m _ meth c := ⟨hx, hb, hts, hown, hK, hin, hA⟩
  refine lv_aload_n hx hb (show decode prog_9_method_1_code 0 = .ok (.aload_n 0, 1) by decide +kernel) rfl (lv_at hl 0 rfl) ?_
  refine W.objInit hx hb hown (hts (.methodLink "TypedMill$Typing" 3 objectInit) (sm_mem1 234 (by decide +kernel) (by decide +kernel))) (hts (.instanceMethod objectInit) (sm_mem1 128 (by decide +kernel) (by decide +kernel))) (hts (.code objectInit ⟨#[0xb1]⟩ 1 none) (sm_mem1 129 (by decide +kernel) (by decide +kernel))) rfl (by rw [hml]; exact hl.1) rfl (show decode prog_9_method_1_code 1 = .ok (.invokespecial 3, 3) by decide +kernel) (Nat.le_of_ble_eq_true rfl) (Nat.le_of_ble_eq_true rfl) ?_
  refine W.eq (g2 := F0 m 4 ls []) rfl ?_
  refine cs_arr (z := false) (n := 16) (ni := 16) (k := 2) (p2 := 7) (idx := 11) X hP hD hS (lv_at hl 0 rfl) (by decide +kernel) (by decide +kernel) (by decide +kernel) (fun st h => lv_bipush (n := 16) hx hb (by decide +kernel) (by decide) h) (by decide) (by decide) (by decide) (Nat.le_of_ble_eq_true rfl) (Nat.le_of_ble_eq_true rfl) rfl (by decide) rfl (sm_mem1 237 (by decide +kernel) (by decide +kernel)) rfl rfl (by decide +kernel) (sm_mem1 185 (by decide +kernel) (by decide +kernel)) (fun q1 H locs hP hD hS => ?_)
  refine cs_ref (C' := "TypedMill$Types") (j := 1) (k := 0) (idx := 17) X hP hD hS (lv_at hl 0 rfl) (lv_at hl 1 rfl) (by decide +kernel) (by decide +kernel) (by decide +kernel) rfl (by decide) rfl (sm_mem1 235 (by decide +kernel) (by decide +kernel)) rfl rfl rfl (by decide +kernel) (fun H locs hP hD hS => ?_)
  refine cs_ref (C' := "TypedMill$Expressions") (j := 2) (k := 1) (idx := 21) X hP hD hS (lv_at hl 0 rfl) (lv_at hl 2 rfl) (by decide +kernel) (by decide +kernel) (by decide +kernel) rfl (by decide) rfl (sm_mem1 236 (by decide +kernel) (by decide +kernel)) rfl rfl rfl (by decide +kernel) (fun H locs hP hD hS => ?_)
  exact W.vret hx hb hr (fun t ht hW => ⟨⟨[q1], rfl, rfl, by rw [ht]; exact hP, va_K.moved hW.alike hK, hD⟩, hS.F ht⟩) hS.2.2 (by decide +kernel)
def ke_Evaluator (cI cZ : ClassId) (o : Nat) (r1 : Nat) (as : List Nat) : va_W := [(o, .inr (4, [.ref r1, .ref (as.getD 0 0), .ref (as.getD 1 0), .ref (as.getD 2 0), .int 0, .ref (as.getD 3 0), .ref (as.getD 4 0), .int 0, .int 0, .int 0])), (as.getD 0 0, .inl (cI, 500, .inl (fun _ => 0))), (as.getD 1 0, .inl (cI, 500, .inl (fun _ => 0))), (as.getD 2 0, .inl (cI, 500, .inl (fun _ => 0))), (as.getD 3 0, .inl (cI, 166, .inl (fun _ => 0))), (as.getD 4 0, .inl (cI, 166, .inl (fun _ => 0)))]
set_option maxRecDepth 100000 in
set_option maxHeartbeats 4000000 in
theorem kt_Evaluator (l : Launch) (D : va_G) (cI cZ : ClassId) (o : Nat) (r1 : Nat) (sz : Nat) : Met l ⟨"TypedMill$Evaluator", "<init>", "(LTypedMill$Expressions;)V"⟩ (Cond.code ⟨"TypedMill$Evaluator", "<init>", "(LTypedMill$Expressions;)V"⟩ prog_5_method_1_code 2 none :: smT) ({ frames := 1, cells := 5, slots := 1832, locals := 64 }) (va_Pc [.ref o, .ref r1] (fun U => U.heap.size = sz ∧ va_P D smCl [(o, .inr (4, [.null, .null, .null, .null, .int 0, .null, .null, .int 0, .int 0, .int 0]))] U.heap ∧ va_K D smCl [(cI, .int), (cZ, .boolean)] U ∧ va_D (fun _ => True) [(o, .inr (4, [.null, .null, .null, .null, .int 0, .null, .null, .int 0, .int 0, .int 0]))])) (va_Qv (fun as : List Nat => as.length = 5) (fun as t => va_P D smCl (ke_Evaluator cI cZ o r1 as) t.heap ∧ va_K D smCl [(cI, .int), (cZ, .boolean)] t ∧ va_D (va_A [(o, .inr (4, [.null, .null, .null, .null, .int 0, .null, .null, .int 0, .int 0, .int 0]))] sz) (ke_Evaluator cI cZ o r1 as)) (va_A [(o, .inr (4, [.null, .null, .null, .null, .int 0, .null, .null, .int 0, .int 0, .int 0]))] sz)) 5 1832 (va_A [(o, .inr (4, [.null, .null, .null, .null, .int 0, .null, .null, .int 0, .int 0, .int 0]))] sz) := by
  refine Met.ofW (cc := prog_5_method_1_code) (maxL := 2) (ret := none) (ws' := smT) (by decide) rfl ?_
  intro p e s m args below meth c s₁ B hml hv
  obtain ⟨rfl, hsz, hP, hK, hD0⟩ := hv
  have hx := B.exec
  have hb := B.bytes
  have hr := B.returns
  have hts0 := atoms_spec (ws := Cond.code ⟨"TypedMill$Evaluator", "<init>", "(LTypedMill$Expressions;)V"⟩ prog_5_method_1_code 2 none :: smT) B.pre
  have hts : ∀ w ∈ smT, w.before _ s = true := fun w hw => hts0 w (List.mem_cons_of_mem _ hw)
  have hown : s.vm.findClass "TypedMill$Evaluator" = some m.cls := findClass_of_methodNamed B.named
  have hlocks := B.notSynchronized
  have hin : meth.name = "<init>" := (name_of_methodNamed B.named B.method).1
  subst hsz
  have hD := hD0.self (sz := s.heap.size)
  generalize hAe : va_A [(o, .inr (4, [.null, .null, .null, .null, .int 0, .null, .null, .int 0, .int 0, .int 0]))] s.heap.size = A at hD ⊢
  have hA : ∀ q : Nat, s.heap.size ≤ q → A q := fun q h => by rw [← hAe]; exact Or.inr h
  have hS : va_S A s.heap s.heap [] := va_S.rf
  have hl := lv_entry ([.ref o, .ref r1]) (n := 2) (Nat.le_of_ble_eq_true rfl)
  rw [lg_entry_eq]
  generalize (lg_sl ([.ref o, .ref r1]) ++ List.replicate (2 - (lg_sl ([.ref o, .ref r1])).length) Slot.unset).toArray = ls at hl ⊢
  have hl : lv_has ls 2 [(0, .ref o), (1, .ref r1)] := hl
  have X : cs_Cx prog_5_method_1_code "TypedMill$Evaluator" D cI cZ A s.heap p s m _ meth c := ⟨hx, hb, hts, hown, hK, hin, hA⟩
  refine lv_aload_n hx hb (show decode prog_5_method_1_code 0 = .ok (.aload_n 0, 1) by decide +kernel) rfl (lv_at hl 0 rfl) ?_
  refine W.objInit hx hb hown (hts (.methodLink "TypedMill$Evaluator" 5 objectInit) (sm_mem1 253 (by decide +kernel) (by decide +kernel))) (hts (.instanceMethod objectInit) (sm_mem1 128 (by decide +kernel) (by decide +kernel))) (hts (.code objectInit ⟨#[0xb1]⟩ 1 none) (sm_mem1 129 (by decide +kernel) (by decide +kernel))) rfl (by rw [hml]; exact hl.1) rfl (show decode prog_5_method_1_code 1 = .ok (.invokespecial 5, 3) by decide +kernel) (Nat.le_of_ble_eq_true rfl) (Nat.le_of_ble_eq_true rfl) ?_
  refine W.eq (g2 := F0 m 4 ls []) rfl ?_
  refine cs_arr (z := false) (n := 500) (ni := 500) (k := 1) (p2 := 8) (idx := 11) X hP hD hS (lv_at hl 0 rfl) (by decide +kernel) (by decide +kernel) (by decide +kernel) (fun st h => lv_sipush (n := 500) hx hb (by decide +kernel) (by decide) h) (by decide) (by decide) (by decide) (Nat.le_of_ble_eq_true rfl) (Nat.le_of_ble_eq_true rfl) rfl (by decide) rfl (sm_mem1 255 (by decide +kernel) (by decide +kernel)) rfl rfl (by decide +kernel) (sm_mem1 185 (by decide +kernel) (by decide +kernel)) (fun q1 H locs hP hD hS => ?_)
  refine cs_arr (z := false) (n := 500) (ni := 500) (k := 2) (p2 := 17) (idx := 15) X hP hD hS (lv_at hl 0 rfl) (by decide +kernel) (by decide +kernel) (by decide +kernel) (fun st h => lv_sipush (n := 500) hx hb (by decide +kernel) (by decide) h) (by decide) (by decide) (by decide) (Nat.le_of_ble_eq_true rfl) (Nat.le_of_ble_eq_true rfl) rfl (by decide) rfl (sm_mem1 256 (by decide +kernel) (by decide +kernel)) rfl rfl (by decide +kernel) (sm_mem1 185 (by decide +kernel) (by decide +kernel)) (fun q2 H locs hP hD hS => ?_)
  refine cs_arr (z := false) (n := 500) (ni := 500) (k := 3) (p2 := 26) (idx := 18) X hP hD hS (lv_at hl 0 rfl) (by decide +kernel) (by decide +kernel) (by decide +kernel) (fun st h => lv_sipush (n := 500) hx hb (by decide +kernel) (by decide) h) (by decide) (by decide) (by decide) (Nat.le_of_ble_eq_true rfl) (Nat.le_of_ble_eq_true rfl) rfl (by decide) rfl (sm_mem1 257 (by decide +kernel) (by decide +kernel)) rfl rfl (by decide +kernel) (sm_mem1 185 (by decide +kernel) (by decide +kernel)) (fun q3 H locs hP hD hS => ?_)
  refine cs_arr (z := false) (n := 166) (ni := 166) (k := 5) (p2 := 35) (idx := 21) X hP hD hS (lv_at hl 0 rfl) (by decide +kernel) (by decide +kernel) (by decide +kernel) (fun st h => lv_sipush (n := 166) hx hb (by decide +kernel) (by decide) h) (by decide) (by decide) (by decide) (Nat.le_of_ble_eq_true rfl) (Nat.le_of_ble_eq_true rfl) rfl (by decide) rfl (sm_mem1 259 (by decide +kernel) (by decide +kernel)) rfl rfl (by decide +kernel) (sm_mem1 185 (by decide +kernel) (by decide +kernel)) (fun q4 H locs hP hD hS => ?_)
  refine cs_arr (z := false) (n := 166) (ni := 166) (k := 6) (p2 := 44) (idx := 24) X hP hD hS (lv_at hl 0 rfl) (by decide +kernel) (by decide +kernel) (by decide +kernel) (fun st h => lv_sipush (n := 166) hx hb (by decide +kernel) (by decide) h) (by decide) (by decide) (by decide) (Nat.le_of_ble_eq_true rfl) (Nat.le_of_ble_eq_true rfl) rfl (by decide) rfl (sm_mem1 260 (by decide +kernel) (by decide +kernel)) rfl rfl (by decide +kernel) (sm_mem1 185 (by decide +kernel) (by decide +kernel)) (fun q5 H locs hP hD hS => ?_)
  refine cs_ref (C' := "TypedMill$Expressions") (j := 1) (k := 0) (idx := 27) X hP hD hS (lv_at hl 0 rfl) (lv_at hl 1 rfl) (by decide +kernel) (by decide +kernel) (by decide +kernel) rfl (by decide) rfl (sm_mem1 254 (by decide +kernel) (by decide +kernel)) rfl rfl rfl (by decide +kernel) (fun H locs hP hD hS => ?_)
  exact W.vret hx hb hr (fun t ht hW => ⟨⟨[q1, q2, q3, q4, q5], rfl, rfl, by rw [ht]; exact hP, va_K.moved hW.alike hK, hD⟩, hS.F ht⟩) hS.2.2 (by decide +kernel)
def ke_CodeWriter (cI cZ : ClassId) (o : Nat) (r1 r2 : Nat) (as : List Nat) : va_W := [(o, .inr (5, [.ref r1, .ref r2, .ref (as.getD 0 0), .ref (as.getD 1 0), .ref (as.getD 2 0), .int 0, .ref (as.getD 3 0), .ref (as.getD 4 0), .ref (as.getD 5 0), .int 0, .null])), (as.getD 0 0, .inl (cI, 301, .inl (upd (fun _ => 0) ((0 : Int32).toNatClampNeg) (0)))), (as.getD 1 0, .inl (cI, 301, .inl (upd (fun _ => 0) ((0 : Int32).toNatClampNeg) (-1)))), (as.getD 2 0, .inl (cZ, 301, .inl (fun _ => 0))), (as.getD 3 0, .inl (cI, 40, .inl (fun _ => 0))), (as.getD 4 0, .inl (cI, 40, .inl (fun _ => 0))), (as.getD 5 0, .inl (cI, 40, .inl (fun _ => 0)))]
set_option maxRecDepth 100000 in
set_option maxHeartbeats 4000000 in
theorem kt_CodeWriter (l : Launch) (D : va_G) (cI cZ : ClassId) (o : Nat) (r1 r2 : Nat) (sz : Nat) : Met l ⟨"TypedMill$CodeWriter", "<init>", "(LTypedMill$Types;LTypedMill$Expressions;)V"⟩ (Cond.code ⟨"TypedMill$CodeWriter", "<init>", "(LTypedMill$Types;LTypedMill$Expressions;)V"⟩ prog_4_method_1_code 3 none :: smT) ({ frames := 1, cells := 6, slots := 1023, locals := 64 }) (va_Pc [.ref o, .ref r1, .ref r2] (fun U => U.heap.size = sz ∧ va_P D smCl [(o, .inr (5, [.null, .null, .null, .null, .null, .int 0, .null, .null, .null, .int 0, .null]))] U.heap ∧ va_K D smCl [(cI, .int), (cZ, .boolean)] U ∧ va_D (fun _ => True) [(o, .inr (5, [.null, .null, .null, .null, .null, .int 0, .null, .null, .null, .int 0, .null]))])) (va_Qv (fun as : List Nat => as.length = 6) (fun as t => va_P D smCl (ke_CodeWriter cI cZ o r1 r2 as) t.heap ∧ va_K D smCl [(cI, .int), (cZ, .boolean)] t ∧ va_D (va_A [(o, .inr (5, [.null, .null, .null, .null, .null, .int 0, .null, .null, .null, .int 0, .null]))] sz) (ke_CodeWriter cI cZ o r1 r2 as)) (va_A [(o, .inr (5, [.null, .null, .null, .null, .null, .int 0, .null, .null, .null, .int 0, .null]))] sz)) 6 1023 (va_A [(o, .inr (5, [.null, .null, .null, .null, .null, .int 0, .null, .null, .null, .int 0, .null]))] sz) := by
  refine Met.ofW (cc := prog_4_method_1_code) (maxL := 3) (ret := none) (ws' := smT) (by decide) rfl ?_
  intro p e s m args below meth c s₁ B hml hv
  obtain ⟨rfl, hsz, hP, hK, hD0⟩ := hv
  have hx := B.exec
  have hb := B.bytes
  have hr := B.returns
  have hts0 := atoms_spec (ws := Cond.code ⟨"TypedMill$CodeWriter", "<init>", "(LTypedMill$Types;LTypedMill$Expressions;)V"⟩ prog_4_method_1_code 3 none :: smT) B.pre
  have hts : ∀ w ∈ smT, w.before _ s = true := fun w hw => hts0 w (List.mem_cons_of_mem _ hw)
  have hown : s.vm.findClass "TypedMill$CodeWriter" = some m.cls := findClass_of_methodNamed B.named
  have hlocks := B.notSynchronized
  have hin : meth.name = "<init>" := (name_of_methodNamed B.named B.method).1
  subst hsz
  have hD := hD0.self (sz := s.heap.size)
  generalize hAe : va_A [(o, .inr (5, [.null, .null, .null, .null, .null, .int 0, .null, .null, .null, .int 0, .null]))] s.heap.size = A at hD ⊢
  have hA : ∀ q : Nat, s.heap.size ≤ q → A q := fun q h => by rw [← hAe]; exact Or.inr h
  have hS : va_S A s.heap s.heap [] := va_S.rf
  have hl := lv_entry ([.ref o, .ref r1, .ref r2]) (n := 3) (Nat.le_of_ble_eq_true rfl)
  rw [lg_entry_eq]
  generalize (lg_sl ([.ref o, .ref r1, .ref r2]) ++ List.replicate (3 - (lg_sl ([.ref o, .ref r1, .ref r2])).length) Slot.unset).toArray = ls at hl ⊢
  have hl : lv_has ls 3 [(0, .ref o), (1, .ref r1), (2, .ref r2)] := hl
  have X : cs_Cx prog_4_method_1_code "TypedMill$CodeWriter" D cI cZ A s.heap p s m _ meth c := ⟨hx, hb, hts, hown, hK, hin, hA⟩
  refine lv_aload_n hx hb (show decode prog_4_method_1_code 0 = .ok (.aload_n 0, 1) by decide +kernel) rfl (lv_at hl 0 rfl) ?_
  refine W.objInit hx hb hown (hts (.methodLink "TypedMill$CodeWriter" 5 objectInit) (sm_mem1 292 (by decide +kernel) (by decide +kernel))) (hts (.instanceMethod objectInit) (sm_mem1 128 (by decide +kernel) (by decide +kernel))) (hts (.code objectInit ⟨#[0xb1]⟩ 1 none) (sm_mem1 129 (by decide +kernel) (by decide +kernel))) rfl (by rw [hml]; exact hl.1) rfl (show decode prog_4_method_1_code 1 = .ok (.invokespecial 5, 3) by decide +kernel) (Nat.le_of_ble_eq_true rfl) (Nat.le_of_ble_eq_true rfl) ?_
  refine W.eq (g2 := F0 m 4 ls []) rfl ?_
  refine cs_arr (z := false) (n := 301) (ni := 301) (k := 2) (p2 := 8) (idx := 13) X hP hD hS (lv_at hl 0 rfl) (by decide +kernel) (by decide +kernel) (by decide +kernel) (fun st h => lv_sipush (n := 301) hx hb (by decide +kernel) (by decide) h) (by decide) (by decide) (by decide) (Nat.le_of_ble_eq_true rfl) (Nat.le_of_ble_eq_true rfl) rfl (by decide) rfl (sm_mem1 295 (by decide +kernel) (by decide +kernel)) rfl rfl (by decide +kernel) (sm_mem1 185 (by decide +kernel) (by decide +kernel)) (fun q1 H locs hP hD hS => ?_)
  refine cs_arr (z := false) (n := 301) (ni := 301) (k := 3) (p2 := 17) (idx := 17) X hP hD hS (lv_at hl 0 rfl) (by decide +kernel) (by decide +kernel) (by decide +kernel) (fun st h => lv_sipush (n := 301) hx hb (by decide +kernel) (by decide) h) (by decide) (by decide) (by decide) (Nat.le_of_ble_eq_true rfl) (Nat.le_of_ble_eq_true rfl) rfl (by decide) rfl (sm_mem1 296 (by decide +kernel) (by decide +kernel)) rfl rfl (by decide +kernel) (sm_mem1 185 (by decide +kernel) (by decide +kernel)) (fun q2 H locs hP hD hS => ?_)
  refine cs_arr (z := true) (n := 301) (ni := 301) (k := 4) (p2 := 26) (idx := 20) X hP hD hS (lv_at hl 0 rfl) (by decide +kernel) (by decide +kernel) (by decide +kernel) (fun st h => lv_sipush (n := 301) hx hb (by decide +kernel) (by decide) h) (by decide) (by decide) (by decide) (Nat.le_of_ble_eq_true rfl) (Nat.le_of_ble_eq_true rfl) rfl (by decide) rfl (sm_mem1 297 (by decide +kernel) (by decide +kernel)) rfl rfl (by decide +kernel) (sm_mem1 327 (by decide +kernel) (by decide +kernel)) (fun q3 H locs hP hD hS => ?_)
  refine cs_arr (z := false) (n := 40) (ni := 40) (k := 6) (p2 := 34) (idx := 24) X hP hD hS (lv_at hl 0 rfl) (by decide +kernel) (by decide +kernel) (by decide +kernel) (fun st h => lv_bipush (n := 40) hx hb (by decide +kernel) (by decide) h) (by decide) (by decide) (by decide) (Nat.le_of_ble_eq_true rfl) (Nat.le_of_ble_eq_true rfl) rfl (by decide) rfl (sm_mem1 299 (by decide +kernel) (by decide +kernel)) rfl rfl (by decide +kernel) (sm_mem1 185 (by decide +kernel) (by decide +kernel)) (fun q4 H locs hP hD hS => ?_)
  refine cs_arr (z := false) (n := 40) (ni := 40) (k := 7) (p2 := 42) (idx := 27) X hP hD hS (lv_at hl 0 rfl) (by decide +kernel) (by decide +kernel) (by decide +kernel) (fun st h => lv_bipush (n := 40) hx hb (by decide +kernel) (by decide) h) (by decide) (by decide) (by decide) (Nat.le_of_ble_eq_true rfl) (Nat.le_of_ble_eq_true rfl) rfl (by decide) rfl (sm_mem1 300 (by decide +kernel) (by decide +kernel)) rfl rfl (by decide +kernel) (sm_mem1 185 (by decide +kernel) (by decide +kernel)) (fun q5 H locs hP hD hS => ?_)
  refine cs_arr (z := false) (n := 40) (ni := 40) (k := 8) (p2 := 50) (idx := 30) X hP hD hS (lv_at hl 0 rfl) (by decide +kernel) (by decide +kernel) (by decide +kernel) (fun st h => lv_bipush (n := 40) hx hb (by decide +kernel) (by decide) h) (by decide) (by decide) (by decide) (Nat.le_of_ble_eq_true rfl) (Nat.le_of_ble_eq_true rfl) rfl (by decide) rfl (sm_mem1 301 (by decide +kernel) (by decide +kernel)) rfl rfl (by decide +kernel) (sm_mem1 185 (by decide +kernel) (by decide +kernel)) (fun q6 H locs hP hD hS => ?_)
  refine cs_ref (C' := "TypedMill$Types") (j := 1) (k := 0) (idx := 33) X hP hD hS (lv_at hl 0 rfl) (lv_at hl 1 rfl) (by decide +kernel) (by decide +kernel) (by decide +kernel) rfl (by decide) rfl (sm_mem1 293 (by decide +kernel) (by decide +kernel)) rfl rfl rfl (by decide +kernel) (fun H locs hP hD hS => ?_)
  refine cs_ref (C' := "TypedMill$Expressions") (j := 2) (k := 1) (idx := 37) X hP hD hS (lv_at hl 0 rfl) (lv_at hl 2 rfl) (by decide +kernel) (by decide +kernel) (by decide +kernel) rfl (by decide) rfl (sm_mem1 294 (by decide +kernel) (by decide +kernel)) rfl rfl rfl (by decide +kernel) (fun H locs hP hD hS => ?_)
  refine cs_ast (c1 := 0) (c2 := 0) (i := 0) (v := 0) (k := 2) (j := 0) (idx := 13) X hP hD hS (lv_at hl 0 rfl) (by decide +kernel) (by decide +kernel) (by decide +kernel) (by decide +kernel) (by decide +kernel) (by decide) (by decide) rfl (by decide) (sm_mem1 295 (by decide +kernel) (by decide +kernel)) rfl rfl rfl (vp_in_iff.mpr (by decide)) (fun H locs hP hD hS => ?_)
  refine cs_ast (c1 := 0) (c2 := -1) (i := 0) (v := -1) (k := 3) (j := 1) (idx := 17) X hP hD hS (lv_at hl 0 rfl) (by decide +kernel) (by decide +kernel) (by decide +kernel) (by decide +kernel) (by decide +kernel) (by decide) (by decide) rfl (by decide) (sm_mem1 296 (by decide +kernel) (by decide +kernel)) rfl rfl rfl (vp_in_iff.mpr (by decide)) (fun H locs hP hD hS => ?_)
  exact W.vret hx hb hr (fun t ht hW => ⟨⟨[q1, q2, q3, q4, q5, q6], rfl, rfl, by rw [ht]; exact hP, va_K.moved hW.alike hK, hD⟩, hS.F ht⟩) hS.2.2 (by decide +kernel)
def ke_Checker (cI cZ : ClassId) (o : Nat) (r1 : Nat) (as : List Nat) : va_W := [(o, .inr (6, [.ref r1, .ref (as.getD 0 0), .null])), (as.getD 0 0, .inl (cI, 6, .inl (fun _ => 0)))]
set_option maxRecDepth 100000 in
set_option maxHeartbeats 4000000 in
theorem kt_Checker (l : Launch) (D : va_G) (cI cZ : ClassId) (o : Nat) (r1 : Nat) (sz : Nat) : Met l ⟨"TypedMill$Checker", "<init>", "(LTypedMill$Types;)V"⟩ (Cond.code ⟨"TypedMill$Checker", "<init>", "(LTypedMill$Types;)V"⟩ prog_2_method_1_code 2 none :: smT) ({ frames := 1, cells := 1, slots := 6, locals := 64 }) (va_Pc [.ref o, .ref r1] (fun U => U.heap.size = sz ∧ va_P D smCl [(o, .inr (6, [.null, .null, .null]))] U.heap ∧ va_K D smCl [(cI, .int), (cZ, .boolean)] U ∧ va_D (fun _ => True) [(o, .inr (6, [.null, .null, .null]))])) (va_Qv (fun as : List Nat => as.length = 1) (fun as t => va_P D smCl (ke_Checker cI cZ o r1 as) t.heap ∧ va_K D smCl [(cI, .int), (cZ, .boolean)] t ∧ va_D (va_A [(o, .inr (6, [.null, .null, .null]))] sz) (ke_Checker cI cZ o r1 as)) (va_A [(o, .inr (6, [.null, .null, .null]))] sz)) 1 6 (va_A [(o, .inr (6, [.null, .null, .null]))] sz) := by
  refine Met.ofW (cc := prog_2_method_1_code) (maxL := 2) (ret := none) (ws' := smT) (by decide) rfl ?_
  intro p e s m args below meth c s₁ B hml hv
  obtain ⟨rfl, hsz, hP, hK, hD0⟩ := hv
  have hx := B.exec
  have hb := B.bytes
  have hr := B.returns
  have hts0 := atoms_spec (ws := Cond.code ⟨"TypedMill$Checker", "<init>", "(LTypedMill$Types;)V"⟩ prog_2_method_1_code 2 none :: smT) B.pre
  have hts : ∀ w ∈ smT, w.before _ s = true := fun w hw => hts0 w (List.mem_cons_of_mem _ hw)
  have hown : s.vm.findClass "TypedMill$Checker" = some m.cls := findClass_of_methodNamed B.named
  have hlocks := B.notSynchronized
  have hin : meth.name = "<init>" := (name_of_methodNamed B.named B.method).1
  subst hsz
  have hD := hD0.self (sz := s.heap.size)
  generalize hAe : va_A [(o, .inr (6, [.null, .null, .null]))] s.heap.size = A at hD ⊢
  have hA : ∀ q : Nat, s.heap.size ≤ q → A q := fun q h => by rw [← hAe]; exact Or.inr h
  have hS : va_S A s.heap s.heap [] := va_S.rf
  have hl := lv_entry ([.ref o, .ref r1]) (n := 2) (Nat.le_of_ble_eq_true rfl)
  rw [lg_entry_eq]
  generalize (lg_sl ([.ref o, .ref r1]) ++ List.replicate (2 - (lg_sl ([.ref o, .ref r1])).length) Slot.unset).toArray = ls at hl ⊢
  have hl : lv_has ls 2 [(0, .ref o), (1, .ref r1)] := hl
  have X : cs_Cx prog_2_method_1_code "TypedMill$Checker" D cI cZ A s.heap p s m _ meth c := ⟨hx, hb, hts, hown, hK, hin, hA⟩
  refine lv_aload_n hx hb (show decode prog_2_method_1_code 0 = .ok (.aload_n 0, 1) by decide +kernel) rfl (lv_at hl 0 rfl) ?_
  refine W.objInit hx hb hown (hts (.methodLink "TypedMill$Checker" 3 objectInit) (sm_mem1 333 (by decide +kernel) (by decide +kernel))) (hts (.instanceMethod objectInit) (sm_mem1 128 (by decide +kernel) (by decide +kernel))) (hts (.code objectInit ⟨#[0xb1]⟩ 1 none) (sm_mem1 129 (by decide +kernel) (by decide +kernel))) rfl (by rw [hml]; exact hl.1) rfl (show decode prog_2_method_1_code 1 = .ok (.invokespecial 3, 3) by decide +kernel) (Nat.le_of_ble_eq_true rfl) (Nat.le_of_ble_eq_true rfl) ?_
  refine W.eq (g2 := F0 m 4 ls []) rfl ?_
  refine cs_arr (z := false) (n := 6) (ni := 6) (k := 1) (p2 := 7) (idx := 11) X hP hD hS (lv_at hl 0 rfl) (by decide +kernel) (by decide +kernel) (by decide +kernel) (fun st h => lv_bipush (n := 6) hx hb (by decide +kernel) (by decide) h) (by decide) (by decide) (by decide) (Nat.le_of_ble_eq_true rfl) (Nat.le_of_ble_eq_true rfl) rfl (by decide) rfl (sm_mem1 335 (by decide +kernel) (by decide +kernel)) rfl rfl (by decide +kernel) (sm_mem1 185 (by decide +kernel) (by decide +kernel)) (fun q1 H locs hP hD hS => ?_)
  refine cs_ref (C' := "TypedMill$Types") (j := 1) (k := 0) (idx := 17) X hP hD hS (lv_at hl 0 rfl) (lv_at hl 1 rfl) (by decide +kernel) (by decide +kernel) (by decide +kernel) rfl (by decide) rfl (sm_mem1 334 (by decide +kernel) (by decide +kernel)) rfl rfl rfl (by decide +kernel) (fun H locs hP hD hS => ?_)
  exact W.vret hx hb hr (fun t ht hW => ⟨⟨[q1], rfl, rfl, by rw [ht]; exact hP, va_K.moved hW.alike hK, hD⟩, hS.F ht⟩) hS.2.2 (by decide +kernel)
def ke_Machine (cI cZ : ClassId) (o : Nat) (as : List Nat) : va_W := [(o, .inr (7, [.ref (as.getD 0 0), .ref (as.getD 1 0), .ref (as.getD 2 0), .ref (as.getD 3 0), .ref (as.getD 4 0), .ref (as.getD 5 0), .int 0, .null, .int 0, .int 0, .int 0])), (as.getD 0 0, .inl (cI, 6, .inl (fun _ => 0))), (as.getD 1 0, .inl (cI, 6, .inl (fun _ => 0))), (as.getD 2 0, .inl (cI, 400, .inl (fun _ => 0))), (as.getD 3 0, .inl (cI, 400, .inl (fun _ => 0))), (as.getD 4 0, .inl (cI, 400, .inl (fun _ => 0))), (as.getD 5 0, .inl (cI, 400, .inl (fun _ => 0)))]
set_option maxRecDepth 100000 in
set_option maxHeartbeats 4000000 in
theorem kt_Machine (l : Launch) (D : va_G) (cI cZ : ClassId) (o : Nat) (sz : Nat) : Met l ⟨"TypedMill$Machine", "<init>", "()V"⟩ (Cond.code ⟨"TypedMill$Machine", "<init>", "()V"⟩ prog_7_method_1_code 1 none :: smT) ({ frames := 1, cells := 6, slots := 1612, locals := 64 }) (va_Pc [.ref o] (fun U => U.heap.size = sz ∧ va_P D smCl [(o, .inr (7, [.null, .null, .null, .null, .null, .null, .int 0, .null, .int 0, .int 0, .int 0]))] U.heap ∧ va_K D smCl [(cI, .int), (cZ, .boolean)] U ∧ va_D (fun _ => True) [(o, .inr (7, [.null, .null, .null, .null, .null, .null, .int 0, .null, .int 0, .int 0, .int 0]))])) (va_Qv (fun as : List Nat => as.length = 6) (fun as t => va_P D smCl (ke_Machine cI cZ o  as) t.heap ∧ va_K D smCl [(cI, .int), (cZ, .boolean)] t ∧ va_D (va_A [(o, .inr (7, [.null, .null, .null, .null, .null, .null, .int 0, .null, .int 0, .int 0, .int 0]))] sz) (ke_Machine cI cZ o  as)) (va_A [(o, .inr (7, [.null, .null, .null, .null, .null, .null, .int 0, .null, .int 0, .int 0, .int 0]))] sz)) 6 1612 (va_A [(o, .inr (7, [.null, .null, .null, .null, .null, .null, .int 0, .null, .int 0, .int 0, .int 0]))] sz) := by
  refine Met.ofW (cc := prog_7_method_1_code) (maxL := 1) (ret := none) (ws' := smT) (by decide) rfl ?_
  intro p e s m args below meth c s₁ B hml hv
  obtain ⟨rfl, hsz, hP, hK, hD0⟩ := hv
  have hx := B.exec
  have hb := B.bytes
  have hr := B.returns
  have hts0 := atoms_spec (ws := Cond.code ⟨"TypedMill$Machine", "<init>", "()V"⟩ prog_7_method_1_code 1 none :: smT) B.pre
  have hts : ∀ w ∈ smT, w.before _ s = true := fun w hw => hts0 w (List.mem_cons_of_mem _ hw)
  have hown : s.vm.findClass "TypedMill$Machine" = some m.cls := findClass_of_methodNamed B.named
  have hlocks := B.notSynchronized
  have hin : meth.name = "<init>" := (name_of_methodNamed B.named B.method).1
  subst hsz
  have hD := hD0.self (sz := s.heap.size)
  generalize hAe : va_A [(o, .inr (7, [.null, .null, .null, .null, .null, .null, .int 0, .null, .int 0, .int 0, .int 0]))] s.heap.size = A at hD ⊢
  have hA : ∀ q : Nat, s.heap.size ≤ q → A q := fun q h => by rw [← hAe]; exact Or.inr h
  have hS : va_S A s.heap s.heap [] := va_S.rf
  have hl := lv_entry ([.ref o]) (n := 1) (Nat.le_of_ble_eq_true rfl)
  rw [lg_entry_eq]
  generalize (lg_sl ([.ref o]) ++ List.replicate (1 - (lg_sl ([.ref o])).length) Slot.unset).toArray = ls at hl ⊢
  have hl : lv_has ls 1 [(0, .ref o)] := hl
  have X : cs_Cx prog_7_method_1_code "TypedMill$Machine" D cI cZ A s.heap p s m _ meth c := ⟨hx, hb, hts, hown, hK, hin, hA⟩
  refine lv_aload_n hx hb (show decode prog_7_method_1_code 0 = .ok (.aload_n 0, 1) by decide +kernel) rfl (lv_at hl 0 rfl) ?_
  refine W.objInit hx hb hown (hts (.methodLink "TypedMill$Machine" 3 objectInit) (sm_mem1 349 (by decide +kernel) (by decide +kernel))) (hts (.instanceMethod objectInit) (sm_mem1 128 (by decide +kernel) (by decide +kernel))) (hts (.code objectInit ⟨#[0xb1]⟩ 1 none) (sm_mem1 129 (by decide +kernel) (by decide +kernel))) rfl (by rw [hml]; exact hl.1) rfl (show decode prog_7_method_1_code 1 = .ok (.invokespecial 3, 3) by decide +kernel) (Nat.le_of_ble_eq_true rfl) (Nat.le_of_ble_eq_true rfl) ?_
  refine W.eq (g2 := F0 m 4 ls []) rfl ?_
  refine cs_arr (z := false) (n := 6) (ni := 6) (k := 0) (p2 := 7) (idx := 11) X hP hD hS (lv_at hl 0 rfl) (by decide +kernel) (by decide +kernel) (by decide +kernel) (fun st h => lv_bipush (n := 6) hx hb (by decide +kernel) (by decide) h) (by decide) (by decide) (by decide) (Nat.le_of_ble_eq_true rfl) (Nat.le_of_ble_eq_true rfl) rfl (by decide) rfl (sm_mem1 350 (by decide +kernel) (by decide +kernel)) rfl rfl (by decide +kernel) (sm_mem1 185 (by decide +kernel) (by decide +kernel)) (fun q1 H locs hP hD hS => ?_)
  refine cs_arr (z := false) (n := 6) (ni := 6) (k := 1) (p2 := 15) (idx := 17) X hP hD hS (lv_at hl 0 rfl) (by decide +kernel) (by decide +kernel) (by decide +kernel) (fun st h => lv_bipush (n := 6) hx hb (by decide +kernel) (by decide) h) (by decide) (by decide) (by decide) (Nat.le_of_ble_eq_true rfl) (Nat.le_of_ble_eq_true rfl) rfl (by decide) rfl (sm_mem1 351 (by decide +kernel) (by decide +kernel)) rfl rfl (by decide +kernel) (sm_mem1 185 (by decide +kernel) (by decide +kernel)) (fun q2 H locs hP hD hS => ?_)
  refine cs_arr (z := false) (n := 400) (ni := 400) (k := 2) (p2 := 24) (idx := 20) X hP hD hS (lv_at hl 0 rfl) (by decide +kernel) (by decide +kernel) (by decide +kernel) (fun st h => lv_sipush (n := 400) hx hb (by decide +kernel) (by decide) h) (by decide) (by decide) (by decide) (Nat.le_of_ble_eq_true rfl) (Nat.le_of_ble_eq_true rfl) rfl (by decide) rfl (sm_mem1 352 (by decide +kernel) (by decide +kernel)) rfl rfl (by decide +kernel) (sm_mem1 185 (by decide +kernel) (by decide +kernel)) (fun q3 H locs hP hD hS => ?_)
  refine cs_arr (z := false) (n := 400) (ni := 400) (k := 3) (p2 := 33) (idx := 23) X hP hD hS (lv_at hl 0 rfl) (by decide +kernel) (by decide +kernel) (by decide +kernel) (fun st h => lv_sipush (n := 400) hx hb (by decide +kernel) (by decide) h) (by decide) (by decide) (by decide) (Nat.le_of_ble_eq_true rfl) (Nat.le_of_ble_eq_true rfl) rfl (by decide) rfl (sm_mem1 353 (by decide +kernel) (by decide +kernel)) rfl rfl (by decide +kernel) (sm_mem1 185 (by decide +kernel) (by decide +kernel)) (fun q4 H locs hP hD hS => ?_)
  refine cs_arr (z := false) (n := 400) (ni := 400) (k := 4) (p2 := 42) (idx := 26) X hP hD hS (lv_at hl 0 rfl) (by decide +kernel) (by decide +kernel) (by decide +kernel) (fun st h => lv_sipush (n := 400) hx hb (by decide +kernel) (by decide) h) (by decide) (by decide) (by decide) (Nat.le_of_ble_eq_true rfl) (Nat.le_of_ble_eq_true rfl) rfl (by decide) rfl (sm_mem1 354 (by decide +kernel) (by decide +kernel)) rfl rfl (by decide +kernel) (sm_mem1 185 (by decide +kernel) (by decide +kernel)) (fun q5 H locs hP hD hS => ?_)
  refine cs_arr (z := false) (n := 400) (ni := 400) (k := 5) (p2 := 51) (idx := 29) X hP hD hS (lv_at hl 0 rfl) (by decide +kernel) (by decide +kernel) (by decide +kernel) (fun st h => lv_sipush (n := 400) hx hb (by decide +kernel) (by decide) h) (by decide) (by decide) (by decide) (Nat.le_of_ble_eq_true rfl) (Nat.le_of_ble_eq_true rfl) rfl (by decide) rfl (sm_mem1 355 (by decide +kernel) (by decide +kernel)) rfl rfl (by decide +kernel) (sm_mem1 185 (by decide +kernel) (by decide +kernel)) (fun q6 H locs hP hD hS => ?_)
  exact W.vret hx hb hr (fun t ht hW => ⟨⟨[q1, q2, q3, q4, q5, q6], rfl, rfl, by rw [ht]; exact hP, va_K.moved hW.alike hK, hD⟩, hS.F ht⟩) hS.2.2 (by decide +kernel)
def ke_Code (cI cZ : ClassId) (o : Nat) (r1 : Nat) (as : List Nat) : va_W := [(o, .inr (8, [.ref r1, .ref (as.getD 0 0), .ref (as.getD 1 0), .ref (as.getD 2 0), .ref (as.getD 3 0), .ref (as.getD 4 0), .int 0, .ref (as.getD 5 0), .ref (as.getD 6 0), .ref (as.getD 7 0), .ref (as.getD 8 0), .int 0, .int (-1), .int 0, .int 0, .int 0])), (as.getD 0 0, .inl (cI, 300, .inl (fun _ => 0))), (as.getD 1 0, .inl (cI, 300, .inl (fun _ => 0))), (as.getD 2 0, .inl (cI, 300, .inl (fun _ => 0))), (as.getD 3 0, .inl (cI, 300, .inl (fun _ => 0))), (as.getD 4 0, .inl (cI, 300, .inl (fun _ => 0))), (as.getD 5 0, .inl (cI, 40, .inl (fun _ => 0))), (as.getD 6 0, .inl (cI, 40, .inl (fun _ => 0))), (as.getD 7 0, .inl (cI, 120, .inl (fun _ => 0))), (as.getD 8 0, .inl (cI, 120, .inl (fun _ => 0)))]
set_option maxRecDepth 100000 in
set_option maxHeartbeats 4000000 in
theorem kt_Code (l : Launch) (D : va_G) (cI cZ : ClassId) (o : Nat) (r1 : Nat) (sz : Nat) : Met l ⟨"TypedMill$Code", "<init>", "(LTypedMill$Types;)V"⟩ (Cond.code ⟨"TypedMill$Code", "<init>", "(LTypedMill$Types;)V"⟩ prog_3_method_1_code 2 none :: smT) ({ frames := 1, cells := 9, slots := 1820, locals := 64 }) (va_Pc [.ref o, .ref r1] (fun U => U.heap.size = sz ∧ va_P D smCl [(o, .inr (8, [.null, .null, .null, .null, .null, .null, .int 0, .null, .null, .null, .null, .int 0, .int 0, .int 0, .int 0, .int 0]))] U.heap ∧ va_K D smCl [(cI, .int), (cZ, .boolean)] U ∧ va_D (fun _ => True) [(o, .inr (8, [.null, .null, .null, .null, .null, .null, .int 0, .null, .null, .null, .null, .int 0, .int 0, .int 0, .int 0, .int 0]))])) (va_Qv (fun as : List Nat => as.length = 9) (fun as t => va_P D smCl (ke_Code cI cZ o r1 as) t.heap ∧ va_K D smCl [(cI, .int), (cZ, .boolean)] t ∧ va_D (va_A [(o, .inr (8, [.null, .null, .null, .null, .null, .null, .int 0, .null, .null, .null, .null, .int 0, .int 0, .int 0, .int 0, .int 0]))] sz) (ke_Code cI cZ o r1 as)) (va_A [(o, .inr (8, [.null, .null, .null, .null, .null, .null, .int 0, .null, .null, .null, .null, .int 0, .int 0, .int 0, .int 0, .int 0]))] sz)) 9 1820 (va_A [(o, .inr (8, [.null, .null, .null, .null, .null, .null, .int 0, .null, .null, .null, .null, .int 0, .int 0, .int 0, .int 0, .int 0]))] sz) := by
  refine Met.ofW (cc := prog_3_method_1_code) (maxL := 2) (ret := none) (ws' := smT) (by decide) rfl ?_
  intro p e s m args below meth c s₁ B hml hv
  obtain ⟨rfl, hsz, hP, hK, hD0⟩ := hv
  have hx := B.exec
  have hb := B.bytes
  have hr := B.returns
  have hts0 := atoms_spec (ws := Cond.code ⟨"TypedMill$Code", "<init>", "(LTypedMill$Types;)V"⟩ prog_3_method_1_code 2 none :: smT) B.pre
  have hts : ∀ w ∈ smT, w.before _ s = true := fun w hw => hts0 w (List.mem_cons_of_mem _ hw)
  have hown : s.vm.findClass "TypedMill$Code" = some m.cls := findClass_of_methodNamed B.named
  have hlocks := B.notSynchronized
  have hin : meth.name = "<init>" := (name_of_methodNamed B.named B.method).1
  subst hsz
  have hD := hD0.self (sz := s.heap.size)
  generalize hAe : va_A [(o, .inr (8, [.null, .null, .null, .null, .null, .null, .int 0, .null, .null, .null, .null, .int 0, .int 0, .int 0, .int 0, .int 0]))] s.heap.size = A at hD ⊢
  have hA : ∀ q : Nat, s.heap.size ≤ q → A q := fun q h => by rw [← hAe]; exact Or.inr h
  have hS : va_S A s.heap s.heap [] := va_S.rf
  have hl := lv_entry ([.ref o, .ref r1]) (n := 2) (Nat.le_of_ble_eq_true rfl)
  rw [lg_entry_eq]
  generalize (lg_sl ([.ref o, .ref r1]) ++ List.replicate (2 - (lg_sl ([.ref o, .ref r1])).length) Slot.unset).toArray = ls at hl ⊢
  have hl : lv_has ls 2 [(0, .ref o), (1, .ref r1)] := hl
  have X : cs_Cx prog_3_method_1_code "TypedMill$Code" D cI cZ A s.heap p s m _ meth c := ⟨hx, hb, hts, hown, hK, hin, hA⟩
  refine lv_aload_n hx hb (show decode prog_3_method_1_code 0 = .ok (.aload_n 0, 1) by decide +kernel) rfl (lv_at hl 0 rfl) ?_
  refine W.objInit hx hb hown (hts (.methodLink "TypedMill$Code" 3 objectInit) (sm_mem1 390 (by decide +kernel) (by decide +kernel))) (hts (.instanceMethod objectInit) (sm_mem1 128 (by decide +kernel) (by decide +kernel))) (hts (.code objectInit ⟨#[0xb1]⟩ 1 none) (sm_mem1 129 (by decide +kernel) (by decide +kernel))) rfl (by rw [hml]; exact hl.1) rfl (show decode prog_3_method_1_code 1 = .ok (.invokespecial 3, 3) by decide +kernel) (Nat.le_of_ble_eq_true rfl) (Nat.le_of_ble_eq_true rfl) ?_
  refine W.eq (g2 := F0 m 4 ls []) rfl ?_
  refine cs_arr (z := false) (n := 300) (ni := 300) (k := 1) (p2 := 8) (idx := 11) X hP hD hS (lv_at hl 0 rfl) (by decide +kernel) (by decide +kernel) (by decide +kernel) (fun st h => lv_sipush (n := 300) hx hb (by decide +kernel) (by decide) h) (by decide) (by decide) (by decide) (Nat.le_of_ble_eq_true rfl) (Nat.le_of_ble_eq_true rfl) rfl (by decide) rfl (sm_mem1 392 (by decide +kernel) (by decide +kernel)) rfl rfl (by decide +kernel) (sm_mem1 185 (by decide +kernel) (by decide +kernel)) (fun q1 H locs hP hD hS => ?_)
  refine cs_arr (z := false) (n := 300) (ni := 300) (k := 2) (p2 := 17) (idx := 15) X hP hD hS (lv_at hl 0 rfl) (by decide +kernel) (by decide +kernel) (by decide +kernel) (fun st h => lv_sipush (n := 300) hx hb (by decide +kernel) (by decide) h) (by decide) (by decide) (by decide) (Nat.le_of_ble_eq_true rfl) (Nat.le_of_ble_eq_true rfl) rfl (by decide) rfl (sm_mem1 395 (by decide +kernel) (by decide +kernel)) rfl rfl (by decide +kernel) (sm_mem1 185 (by decide +kernel) (by decide +kernel)) (fun q2 H locs hP hD hS => ?_)
  refine cs_arr (z := false) (n := 300) (ni := 300) (k := 3) (p2 := 26) (idx := 18) X hP hD hS (lv_at hl 0 rfl) (by decide +kernel) (by decide +kernel) (by decide +kernel) (fun st h => lv_sipush (n := 300) hx hb (by decide +kernel) (by decide) h) (by decide) (by decide) (by decide) (Nat.le_of_ble_eq_true rfl) (Nat.le_of_ble_eq_true rfl) rfl (by decide) rfl (sm_mem1 398 (by decide +kernel) (by decide +kernel)) rfl rfl (by decide +kernel) (sm_mem1 185 (by decide +kernel) (by decide +kernel)) (fun q3 H locs hP hD hS => ?_)
  refine cs_arr (z := false) (n := 300) (ni := 300) (k := 4) (p2 := 35) (idx := 21) X hP hD hS (lv_at hl 0 rfl) (by decide +kernel) (by decide +kernel) (by decide +kernel) (fun st h => lv_sipush (n := 300) hx hb (by decide +kernel) (by decide) h) (by decide) (by decide) (by decide) (Nat.le_of_ble_eq_true rfl) (Nat.le_of_ble_eq_true rfl) rfl (by decide) rfl (sm_mem1 401 (by decide +kernel) (by decide +kernel)) rfl rfl (by decide +kernel) (sm_mem1 185 (by decide +kernel) (by decide +kernel)) (fun q4 H locs hP hD hS => ?_)
  refine cs_arr (z := false) (n := 300) (ni := 300) (k := 5) (p2 := 44) (idx := 24) X hP hD hS (lv_at hl 0 rfl) (by decide +kernel) (by decide +kernel) (by decide +kernel) (fun st h => lv_sipush (n := 300) hx hb (by decide +kernel) (by decide) h) (by decide) (by decide) (by decide) (Nat.le_of_ble_eq_true rfl) (Nat.le_of_ble_eq_true rfl) rfl (by decide) rfl (sm_mem1 404 (by decide +kernel) (by decide +kernel)) rfl rfl (by decide +kernel) (sm_mem1 185 (by decide +kernel) (by decide +kernel)) (fun q5 H locs hP hD hS => ?_)
  refine cs_arr (z := false) (n := 40) (ni := 40) (k := 7) (p2 := 52) (idx := 27) X hP hD hS (lv_at hl 0 rfl) (by decide +kernel) (by decide +kernel) (by decide +kernel) (fun st h => lv_bipush (n := 40) hx hb (by decide +kernel) (by decide) h) (by decide) (by decide) (by decide) (Nat.le_of_ble_eq_true rfl) (Nat.le_of_ble_eq_true rfl) rfl (by decide) rfl (sm_mem1 407 (by decide +kernel) (by decide +kernel)) rfl rfl (by decide +kernel) (sm_mem1 185 (by decide +kernel) (by decide +kernel)) (fun q6 H locs hP hD hS => ?_)
  refine cs_arr (z := false) (n := 40) (ni := 40) (k := 8) (p2 := 60) (idx := 30) X hP hD hS (lv_at hl 0 rfl) (by decide +kernel) (by decide +kernel) (by decide +kernel) (fun st h => lv_bipush (n := 40) hx hb (by decide +kernel) (by decide) h) (by decide) (by decide) (by decide) (Nat.le_of_ble_eq_true rfl) (Nat.le_of_ble_eq_true rfl) rfl (by decide) rfl (sm_mem1 408 (by decide +kernel) (by decide +kernel)) rfl rfl (by decide +kernel) (sm_mem1 185 (by decide +kernel) (by decide +kernel)) (fun q7 H locs hP hD hS => ?_)
  refine cs_arr (z := false) (n := 120) (ni := 120) (k := 9) (p2 := 68) (idx := 33) X hP hD hS (lv_at hl 0 rfl) (by decide +kernel) (by decide +kernel) (by decide +kernel) (fun st h => lv_bipush (n := 120) hx hb (by decide +kernel) (by decide) h) (by decide) (by decide) (by decide) (Nat.le_of_ble_eq_true rfl) (Nat.le_of_ble_eq_true rfl) rfl (by decide) rfl (sm_mem1 409 (by decide +kernel) (by decide +kernel)) rfl rfl (by decide +kernel) (sm_mem1 185 (by decide +kernel) (by decide +kernel)) (fun q8 H locs hP hD hS => ?_)
  refine cs_arr (z := false) (n := 120) (ni := 120) (k := 10) (p2 := 76) (idx := 36) X hP hD hS (lv_at hl 0 rfl) (by decide +kernel) (by decide +kernel) (by decide +kernel) (fun st h => lv_bipush (n := 120) hx hb (by decide +kernel) (by decide) h) (by decide) (by decide) (by decide) (Nat.le_of_ble_eq_true rfl) (Nat.le_of_ble_eq_true rfl) rfl (by decide) rfl (sm_mem1 410 (by decide +kernel) (by decide +kernel)) rfl rfl (by decide +kernel) (sm_mem1 185 (by decide +kernel) (by decide +kernel)) (fun q9 H locs hP hD hS => ?_)
  refine cs_int (v := -1) (k := 12) (p2 := 83) (idx := 39) X hP hD hS (lv_at hl 0 rfl) (by decide +kernel) (by decide +kernel) (fun st h => lv_iconst (n := -1) hx hb (by decide +kernel) (by decide) h) rfl (by decide) rfl (sm_mem1 414 (by decide +kernel) (by decide +kernel)) rfl rfl (by decide +kernel) (fun H locs hP hD hS => ?_)
  refine cs_ref (C' := "TypedMill$Types") (j := 1) (k := 0) (idx := 43) X hP hD hS (lv_at hl 0 rfl) (lv_at hl 1 rfl) (by decide +kernel) (by decide +kernel) (by decide +kernel) rfl (by decide) rfl (sm_mem1 391 (by decide +kernel) (by decide +kernel)) rfl rfl rfl (by decide +kernel) (fun H locs hP hD hS => ?_)
  exact W.vret hx hb hr (fun t ht hW => ⟨⟨[q1, q2, q3, q4, q5, q6, q7, q8, q9], rfl, rfl, by rw [ht]; exact hP, va_K.moved hW.alike hK, hD⟩, hS.F ht⟩) hS.2.2 (by decide +kernel)
