/-! the constructor of Types: by program -/
def cs_ad (aF aP : Nat) (as : List Nat) (p : Nat) : Nat := if p = 1000 then aF else if p = 1001 then aP else as.getD p 0
abbrev cs_G (Dg : va_G) (cI cZ : ClassId) (aF aP : Nat) (as : List Nat) : sm_G := (Dg, cI, cZ, cs_ad aF aP as)
def cs_sta (aF aP : Nat) (A : Nat → Prop) (U : State) (H : Heap) : Prop := va_Z "TypedMill$Code" "FORM" "[I" (.ref aF) A U H ∧ va_T .int aF 39 (fun j => .int (sm_tab tFORM j)) A U H ∧ va_Z "TypedMill$Expressions" "PARTS" "[I" (.ref aP) A U H ∧ va_T .int aP 11 (fun j => .int (sm_tab tPARTS j)) A U H
theorem cs_sta.sm {aF aP : Nat} {A : Nat → Prop} {U : State} {H : Heap} (h : cs_sta aF aP A U H) (Dg : va_G) (cI cZ : ClassId) (as : List Nat) : sm_sta smSa (cs_G Dg cI cZ aF aP as) A U H := by
  intro q hq
  simp only [smSa, List.mem_cons, List.not_mem_nil, or_false] at hq
  rcases hq with rfl | rfl
  · exact ⟨h.1, h.2.1⟩
  · exact ⟨h.2.2.1, h.2.2.2⟩
set_option maxRecDepth 100000 in
set_option maxHeartbeats 4000000 in
theorem kt_Types (l : Launch) (D : va_G) (cI cZ : ClassId) (aF aP o sz : Nat) : Met l ⟨"TypedMill$Types", "<init>", "()V"⟩ (Cond.code ⟨"TypedMill$Types", "<init>", "()V"⟩ prog_8_method_1_code 1 none :: smT) ({ frames := 4, cells := 7, slots := 4928, locals := 300 }) (va_Pc [.ref o] (fun U => U.heap.size = sz ∧ va_P D smCl [(o, .inr (1, [.null, .null, .null, .null, .null, .null, .null, .int 0]))] U.heap ∧ va_K D smCl [(cI, .int), (cZ, .boolean)] U ∧ va_D (fun _ => True) [(o, .inr (1, [.null, .null, .null, .null, .null, .null, .null, .int 0]))] ∧ cs_sta aF aP (va_A [(o, .inr (1, [.null, .null, .null, .null, .null, .null, .null, .int 0]))] sz) U U.heap)) (va_Qv (fun u : List Nat × sm_M => u.1.length = 7 ∧ tabC u.2 [tyN]) (fun u t => va_P D smCl (sm_ws shT (cs_G D cI cZ aF aP (0 :: o :: u.1)) [] u.2) t.heap ∧ va_K D smCl [(cI, .int), (cZ, .boolean)] t ∧ va_D (va_A [(o, .inr (1, [.null, .null, .null, .null, .null, .null, .null, .int 0]))] sz) (sm_ws shT (cs_G D cI cZ aF aP (0 :: o :: u.1)) [] u.2)) (va_A [(o, .inr (1, [.null, .null, .null, .null, .null, .null, .null, .int 0]))] sz)) 7 4928 (va_A [(o, .inr (1, [.null, .null, .null, .null, .null, .null, .null, .int 0]))] sz) := by
  refine Met.ofW (cc := prog_8_method_1_code) (maxL := 1) (ret := none) (ws' := smT) (by decide) rfl ?_
  intro p e s m args below meth c s₁ B hml hv
  obtain ⟨rfl, hsz, hP, hK, hD0, hst⟩ := hv
  have hx := B.exec
  have hb := B.bytes
  have hr := B.returns
  have hts0 := atoms_spec (ws := Cond.code ⟨"TypedMill$Types", "<init>", "()V"⟩ prog_8_method_1_code 1 none :: smT) B.pre
  have hts : ∀ w ∈ smT, w.before _ s = true := fun w hw => hts0 w (List.mem_cons_of_mem _ hw)
  have hown : s.vm.findClass "TypedMill$Types" = some m.cls := findClass_of_methodNamed B.named
  have hlocks := B.notSynchronized
  have hin : meth.name = "<init>" := (name_of_methodNamed B.named B.method).1
  subst hsz
  have hD := hD0.self (sz := s.heap.size)
  generalize hAe : va_A [(o, .inr (1, [.null, .null, .null, .null, .null, .null, .null, .int 0]))] s.heap.size = A at hD hst ⊢
  have hA : ∀ q : Nat, s.heap.size ≤ q → A q := fun q h => by rw [← hAe]; exact Or.inr h
  have hS : va_S A s.heap s.heap [] := va_S.rf
  have hl := lv_entry ([.ref o]) (n := 1) (Nat.le_of_ble_eq_true rfl)
  rw [lg_entry_eq]
  generalize (lg_sl ([.ref o]) ++ List.replicate (1 - (lg_sl ([.ref o])).length) Slot.unset).toArray = ls at hl ⊢
  have hl : lv_has ls 1 [(0, .ref o)] := hl
  have X : cs_Cx prog_8_method_1_code "TypedMill$Types" D cI cZ A s.heap p s m _ meth c := ⟨hx, hb, hts, hown, hK, hin, hA⟩
  refine lv_aload_n hx hb (show decode prog_8_method_1_code 0 = .ok (.aload_n 0, 1) by decide +kernel) rfl (lv_at hl 0 rfl) ?_
  refine W.objInit hx hb hown (hts (.methodLink "TypedMill$Types" 3 objectInit) (sm_mem1 135 (by decide +kernel) (by decide +kernel))) (hts (.instanceMethod objectInit) (sm_mem1 128 (by decide +kernel) (by decide +kernel))) (hts (.code objectInit ⟨#[0xb1]⟩ 1 none) (sm_mem1 129 (by decide +kernel) (by decide +kernel))) rfl (by rw [hml]; exact hl.1) rfl (show decode prog_8_method_1_code 1 = .ok (.invokespecial 3, 3) by decide +kernel) (Nat.le_of_ble_eq_true rfl) (Nat.le_of_ble_eq_true rfl) ?_
  refine W.eq (g2 := F0 m 4 ls []) rfl ?_
  refine cs_arr (z := false) (n := 800) (ni := 800) (k := 0) (p2 := 8) (idx := 11) X hP hD hS (lv_at hl 0 rfl) (by decide +kernel) (by decide +kernel) (by decide +kernel) (fun st h => lv_sipush (n := 800) hx hb (by decide +kernel) (by decide) h) (by decide) (by decide) (by decide) (Nat.le_of_ble_eq_true rfl) (Nat.le_of_ble_eq_true rfl) rfl (by decide) rfl (sm_mem1 158 (by decide +kernel) (by decide +kernel)) rfl rfl (by decide +kernel) (sm_mem1 185 (by decide +kernel) (by decide +kernel)) (fun q1 H locs hP hD hS => ?_)
  refine cs_arr (z := false) (n := 800) (ni := 800) (k := 1) (p2 := 17) (idx := 15) X hP hD hS (lv_at hl 0 rfl) (by decide +kernel) (by decide +kernel) (by decide +kernel) (fun st h => lv_sipush (n := 800) hx hb (by decide +kernel) (by decide) h) (by decide) (by decide) (by decide) (Nat.le_of_ble_eq_true rfl) (Nat.le_of_ble_eq_true rfl) rfl (by decide) rfl (sm_mem1 159 (by decide +kernel) (by decide +kernel)) rfl rfl (by decide +kernel) (sm_mem1 185 (by decide +kernel) (by decide +kernel)) (fun q2 H locs hP hD hS => ?_)
  refine cs_arr (z := false) (n := 800) (ni := 800) (k := 2) (p2 := 26) (idx := 18) X hP hD hS (lv_at hl 0 rfl) (by decide +kernel) (by decide +kernel) (by decide +kernel) (fun st h => lv_sipush (n := 800) hx hb (by decide +kernel) (by decide) h) (by decide) (by decide) (by decide) (Nat.le_of_ble_eq_true rfl) (Nat.le_of_ble_eq_true rfl) rfl (by decide) rfl (sm_mem1 160 (by decide +kernel) (by decide +kernel)) rfl rfl (by decide +kernel) (sm_mem1 185 (by decide +kernel) (by decide +kernel)) (fun q3 H locs hP hD hS => ?_)
  refine cs_arr (z := false) (n := 800) (ni := 800) (k := 3) (p2 := 35) (idx := 21) X hP hD hS (lv_at hl 0 rfl) (by decide +kernel) (by decide +kernel) (by decide +kernel) (fun st h => lv_sipush (n := 800) hx hb (by decide +kernel) (by decide) h) (by decide) (by decide) (by decide) (Nat.le_of_ble_eq_true rfl) (Nat.le_of_ble_eq_true rfl) rfl (by decide) rfl (sm_mem1 161 (by decide +kernel) (by decide +kernel)) rfl rfl (by decide +kernel) (sm_mem1 185 (by decide +kernel) (by decide +kernel)) (fun q4 H locs hP hD hS => ?_)
  refine cs_arr (z := false) (n := 800) (ni := 800) (k := 4) (p2 := 44) (idx := 24) X hP hD hS (lv_at hl 0 rfl) (by decide +kernel) (by decide +kernel) (by decide +kernel) (fun st h => lv_sipush (n := 800) hx hb (by decide +kernel) (by decide) h) (by decide) (by decide) (by decide) (Nat.le_of_ble_eq_true rfl) (Nat.le_of_ble_eq_true rfl) rfl (by decide) rfl (sm_mem1 162 (by decide +kernel) (by decide +kernel)) rfl rfl (by decide +kernel) (sm_mem1 185 (by decide +kernel) (by decide +kernel)) (fun q5 H locs hP hD hS => ?_)
  refine cs_arr (z := false) (n := 128) (ni := 128) (k := 5) (p2 := 53) (idx := 27) X hP hD hS (lv_at hl 0 rfl) (by decide +kernel) (by decide +kernel) (by decide +kernel) (fun st h => lv_sipush (n := 128) hx hb (by decide +kernel) (by decide) h) (by decide) (by decide) (by decide) (Nat.le_of_ble_eq_true rfl) (Nat.le_of_ble_eq_true rfl) rfl (by decide) rfl (sm_mem1 163 (by decide +kernel) (by decide +kernel)) rfl rfl (by decide +kernel) (sm_mem1 185 (by decide +kernel) (by decide +kernel)) (fun q6 H locs hP hD hS => ?_)
  refine cs_arr (z := false) (n := 800) (ni := 800) (k := 6) (p2 := 62) (idx := 30) X hP hD hS (lv_at hl 0 rfl) (by decide +kernel) (by decide +kernel) (by decide +kernel) (fun st h => lv_sipush (n := 800) hx hb (by decide +kernel) (by decide) h) (by decide) (by decide) (by decide) (Nat.le_of_ble_eq_true rfl) (Nat.le_of_ble_eq_true rfl) rfl (by decide) rfl (sm_mem1 164 (by decide +kernel) (by decide +kernel)) rfl rfl (by decide +kernel) (sm_mem1 185 (by decide +kernel) (by decide +kernel)) (fun q7 H locs hP hD hS => ?_)
  refine lv_aload_n hx hb (show decode prog_8_method_1_code 67 = .ok (.aload_n 0, 1) by decide +kernel) rfl (lv_at hl 0 rfl) ?_
  refine va_get (C := "TypedMill$Types") (T := tF1) (N := 8) (v := .ref q6) hx hb hts uw1 hown hK hP 0 rfl rfl 5 (by decide) (hts (.fieldLink "TypedMill$Types" 27 "TypedMill$Types" "newest" "[I") (sm_mem1 163 (by decide +kernel) (by decide +kernel))) (fun _ h9 => h9) rfl (show decode prog_8_method_1_code 68 = .ok (.getfield 27, 3) by decide +kernel) ?_
  refine lv_iconst (v := -1) hx hb (show decode prog_8_method_1_code 71 = .ok (.iconst (-1), 1) by decide +kernel) (by decide) ?_
  obtain ⟨M2, hj, htab, -⟩ := j_find_first (D := []) (M := fun _ _ => 0) rfl
  have hG := hst.sm D cI cZ (0 :: o :: [q1, q2, q3, q4, q5, q6, q7])
  generalize hGe : cs_G D cI cZ aF aP (0 :: o :: [q1, q2, q3, q4, q5, q6, q7]) = G at hG
  have eP : va_P G.1 smCl (sm_ws shT G [] (fun _ _ => 0) ++ []) H := by subst hGe; exact hP
  have eD : va_D A (sm_ws shT G [] (fun _ _ => 0) ++ []) := by subst hGe; exact hD
  have eK : va_K G.1 smCl (sm_tys G) s := by subst hGe; exact hK
  refine W.eq (g2 := F0 m 72 ls ((([.ref 7, .int (-1)] : List Value).map (sm_cz (sm_ad G))).reverse ++ [])) (by subst hGe; rfl) ?_
  refine wc_S (d := 0) (ix := 33) hx hb hml hown hts (m173T (by decide) (j_fill (L := 128) (by decide))) pq173 (sm_mem1 136 (by decide +kernel) (by decide +kernel)) (sm_mem1 137 (by decide +kernel) (by decide +kernel)) eK eP eD hS hA hG (Nat.le_of_ble_eq_true rfl) (Nat.le_of_ble_eq_true rfl) (Nat.le_of_ble_eq_true rfl) (Nat.le_of_ble_eq_true rfl) hl.1 rfl (by decide) (by decide +kernel) (fun H locs hP hD hS => ?_)
  refine W.eq (g2 := F0 m 75 ls []) rfl ?_
  refine lv_aload_n hx hb (show decode prog_8_method_1_code 75 = .ok (.aload_n 0, 1) by decide +kernel) rfl (lv_at hl 0 rfl) ?_
  refine lv_iconst (v := 0) hx hb (show decode prog_8_method_1_code 76 = .ok (.iconst 0, 1) by decide +kernel) (by decide) ?_
  refine lv_iconst (v := -1) hx hb (show decode prog_8_method_1_code 77 = .ok (.iconst (-1), 1) by decide +kernel) (by decide) ?_
  refine lv_iconst (v := -1) hx hb (show decode prog_8_method_1_code 78 = .ok (.iconst (-1), 1) by decide +kernel) (by decide) ?_
  refine lv_iconst (v := -1) hx hb (show decode prog_8_method_1_code 79 = .ok (.iconst (-1), 1) by decide +kernel) (by decide) ?_
  refine W.eq (g2 := F0 m 80 ls ((([.int 0, .int (-1), .int (-1), .int (-1)] : List Value).map (sm_cz (sm_ad G))).reverse ++ .ref (sm_ad G (0 + 1)) :: [])) (by subst hGe; rfl) ?_
  refine wc_V (d := 1) (ix := 39) (j := 0) hx hb hml hown hts (m159T hj) pq159 (sm_mem1 139 (by decide +kernel) (by decide +kernel)) (sm_mem1 140 (by decide +kernel) (by decide +kernel)) (sm_mem1 141 (by decide +kernel) (by decide +kernel)) (T := tF1) (N := 8) rfl rfl eK hP hD hS hA hG (Nat.le_of_ble_eq_true rfl) (Nat.le_of_ble_eq_true rfl) (Nat.le_of_ble_eq_true rfl) (Nat.le_of_ble_eq_true rfl) hl.1 rfl (by decide) (by decide +kernel) (fun H locs hP hD hS => ?_)
  refine W.eq (g2 := F0 m 83 ls [.int 0]) rfl ?_
  refine lv_pop hx hb (show decode prog_8_method_1_code 83 = .ok (.pop, 1) by decide +kernel) rfl ?_
  have hP : va_P G.1 smCl (sm_ws shT G [] M2) H := (wc_left hP hD).1
  have hD : va_D A (sm_ws shT G [] M2) := (wc_left (wr := []) (by rw [List.append_nil]; exact hP) hD).2
  subst hGe
  exact W.vret hx hb hr (fun t ht hW => ⟨⟨([q1, q2, q3, q4, q5, q6, q7], M2), rfl, ⟨rfl, htab⟩, by rw [ht]; exact hP, va_K.moved hW.alike hK, hD⟩, hS.F ht⟩) hS.2.2 (by decide +kernel)
