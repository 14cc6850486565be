/-! TypedMill.evaluate: by program -/
def xe_rm : Room := { frames := 130, cells := 1, slots := 6, locals := 8400 }
def xe_P (G : sm_G) (sz : Nat) (x : Int32) (D : sm_D) (M : sm_M) : Array Value → State → Prop := va_Pc [.ref (sm_ad G 60), .int x] (fun U => U.heap.size = sz ∧ va_P G.1 smCl (sm_ws shC G D M) U.heap ∧ va_K G.1 smCl (sm_tys G) U ∧ va_D (fun _ => True) (sm_ws shC G D M) ∧ sm_sta smSa G (va_A (sm_ws shC G D M) sz) U U.heap ∧ xt_K (va_A (sm_ws shC G D M) sz) U U.heap)
def xe_B (G : sm_G) (D : sm_D) (M : sm_M) (A : Nat → Prop) (t : State) : Prop := va_P G.1 smCl (sm_ws shC G D M) t.heap ∧ va_K G.1 smCl (sm_tys G) t ∧ va_D A (sm_ws shC G D M)
def fEv : sm_I := (⟨"TypedMill", "evaluate", "(I)I"⟩, prog_1_method_6_code, 3, (some .int), 1, false, 0, [])
set_option maxRecDepth 100000 in
set_option maxHeartbeats 4000000 in
theorem xe_ev1 (l : Launch) (hfl : l.flags = flags0) (G : sm_G) (sz : Nat) {x : Int32} {D : sm_D} {M M1 : sm_M} (h1 : jE_has x D M = some (0, D, M1)) : xt_Met l ⟨"TypedMill", "evaluate", "(I)I"⟩ (Cond.code ⟨"TypedMill", "evaluate", "(I)I"⟩ prog_1_method_6_code 3 (some .int) :: smT) xe_rm (xe_P G sz x D M) (xt_Q "java/util/NoSuchElementException" (xe_B G D M1 (va_A (sm_ws shC G D M) sz)) (va_A (sm_ws shC G D M) sz)) 1 6 (va_A (sm_ws shC G D M) sz) := by
  refine xt_ofW (cc := prog_1_method_6_code) (maxL := 3) (ret := some .int) (ws' := smT) (by decide) rfl ?_
  intro p e s m args below meth c s₁ B hml hv
  obtain ⟨rfl, hsz, hP, hK, hD0, hG, hxk⟩ := hv
  have hx := B.exec
  have hb := B.bytes
  have hr := B.returns
  have hts0 := atoms_spec (ws := Cond.code ⟨"TypedMill", "evaluate", "(I)I"⟩ prog_1_method_6_code 3 (some .int) :: smT) B.pre
  have hts : ∀ w ∈ smT, w.before _ s = true := fun w hw => hts0 w (List.mem_cons_of_mem _ hw)
  have hown : s.vm.findClass "TypedMill" = some m.cls := findClass_of_methodNamed B.named
  have hlocks := B.notSynchronized
  have htab : c.exceptionTable.toList = [] := by simpa using B.noHandlers (hts0 _ List.mem_cons_self)
  subst hsz
  have hD := hD0.self (sz := s.heap.size)
  generalize hAe : va_A (sm_ws shC G D M) s.heap.size = A at hD hG hxk ⊢
  have hA : ∀ q : Nat, s.heap.size ≤ q → A q := fun q h => by rw [← hAe]; exact Or.inr h
  have hS : va_S A s.heap s.heap [] := va_S.rf
  have hl := lv_entry ([.ref (sm_ad G 60), .int x]) (n := 3) (Nat.le_of_ble_eq_true rfl)
  rw [lg_entry_eq]
  generalize (lg_sl ([.ref (sm_ad G 60), .int x]) ++ List.replicate (3 - (lg_sl ([.ref (sm_ad G 60), .int x])).length) Slot.unset).toArray = ls at hl ⊢
  replace hl : lv_has ls 3 [(0, .ref (sm_ad G 60)), (1, .int x)] := hl
  refine lv_aload_n hx hb (show decode prog_1_method_6_code 0 = .ok (.aload_n 0, 1) by decide +kernel) rfl (lv_at hl 0 rfl) ?_
  refine hs_get (j := 59) (k := 1) (a := 1) (b := 9) (C := "TypedMill") (T := tF0) (nF := 9) hx hb hown hts hK hP rfl rfl rfl (by decide) (sm_mem1 460 (by decide +kernel) (by decide +kernel)) rfl (show decode prog_1_method_6_code 1 = .ok (.getfield 19, 3) by decide +kernel) ?_
  refine lv_iload_n hx hb (show decode prog_1_method_6_code 4 = .ok (.iload_n 1, 1) by decide +kernel) rfl (lv_at hl 1 rfl) ?_
  refine W.eq (g2 := F0 m 5 ls ((([.int x] : List Value).map (sm_cz (sm_ad G))).reverse ++ .ref (sm_ad G (8 + 1)) :: [])) rfl ?_
  refine wc_V (wr := []) (d := 0) (ix := 100) (j := 8) hx hb hml hown hts (m135 h1) pq135 (sm_mem1 538 (by decide +kernel) (by decide +kernel)) (sm_mem1 528 (by decide +kernel) (by decide +kernel)) (sm_mem1 529 (by decide +kernel) (by decide +kernel)) (T := tF2) (N := 7) rfl rfl hK (by rw [List.append_nil]; exact hP) (by rw [List.append_nil]; exact hD) hS hA hG (Nat.le_of_ble_eq_true rfl) (Nat.le_of_ble_eq_true rfl) (Nat.le_of_ble_eq_true rfl) (Nat.le_of_ble_eq_true rfl) hl.1 rfl (Nat.le_of_ble_eq_true rfl) (by decide +kernel) (fun H locs hP hD hS => ?_)
  rw [List.append_nil] at hP hD
  replace hP : va_P G.1 smCl (sm_ws shC G D M1) _ := hP
  replace hD : va_D A (sm_ws shC G D M1) := hD
  refine W.eq (g2 := F0 m 8 ls [.int 0]) rfl ?_
  refine lv_if_ne hx hb (show decode prog_1_method_6_code 8 = .ok (.ifCond .ne 11, 3) by decide +kernel) (tgt := 19) (by decide) (fun h => absurd h (not_not_intro rfl)) (fun _ => ?_)
  refine W.eq (g2 := F0 m 11 ls []) rfl ?_
  exact xt_throw (own := "TypedMill") (cls := "java/util/NoSuchElementException") (names := ["java/lang/RuntimeException", "java/lang/Exception"]) (ixN := 104) (ic := 106) (nL := 3) hfl hx hb hml hl.1 hown hts hlocks htab hxk hS (by decide +kernel) (by decide +kernel) (sm_mem1 812 (by decide +kernel) (by decide +kernel)) (sm_mem1 813 (by decide +kernel) (by decide +kernel)) (sm_mem1 118 (by decide +kernel) (by decide +kernel)) xa_NS (by decide +kernel) (by decide +kernel) (by decide +kernel) (by decide +kernel) (Nat.le_of_ble_eq_true rfl) (Nat.le_of_ble_eq_true rfl) (Nat.le_of_ble_eq_true rfl) (Nat.le_of_ble_eq_true rfl) (Nat.le_of_ble_eq_true rfl) (fun y t ce h1 h2 h3 h4 h5 h6 => ⟨⟨ce, h1, h2, h3⟩, ⟨fun k q hq => (hP k q hq).kept (h4 q.1 ((hP k q hq).lt)), va_K.moved h6.alike hK, hD⟩, Nat.le_trans hS.1 h5, fun q g1 g2 => by rw [h4 q (Nat.lt_of_lt_of_le g1 hS.1)]; exact hS.2.1 q g1 g2⟩) hS.2.2
set_option maxRecDepth 100000 in
set_option maxHeartbeats 4000000 in
theorem xe_ev2 (l : Launch) (hfl : l.flags = flags0) (G : sm_G) (sz : Nat) {x : Int32} {D : sm_D} {M M1 M2 : sm_M} {r1 t : Int32} (h1 : jE_has x D M = some (r1, D, M1)) (hr1 : r1 ≠ 0) (h2 : jA_typeOf x D M1 = some (t, D, M2)) (ht : t ≠ 0) : xt_Met l ⟨"TypedMill", "evaluate", "(I)I"⟩ (Cond.code ⟨"TypedMill", "evaluate", "(I)I"⟩ prog_1_method_6_code 3 (some .int) :: smT) xe_rm (xe_P G sz x D M) (xt_Q "java/lang/IllegalArgumentException" (xe_B G D M2 (va_A (sm_ws shC G D M) sz)) (va_A (sm_ws shC G D M) sz)) 1 6 (va_A (sm_ws shC G D M) sz) := by
  refine xt_ofW (cc := prog_1_method_6_code) (maxL := 3) (ret := some .int) (ws' := smT) (by decide) rfl ?_
  intro p e s m args below meth c s₁ B hml hv
  obtain ⟨rfl, hsz, hP, hK, hD0, hG, hxk⟩ := hv
  have hx := B.exec
  have hb := B.bytes
  have hr := B.returns
  have hts0 := atoms_spec (ws := Cond.code ⟨"TypedMill", "evaluate", "(I)I"⟩ prog_1_method_6_code 3 (some .int) :: smT) B.pre
  have hts : ∀ w ∈ smT, w.before _ s = true := fun w hw => hts0 w (List.mem_cons_of_mem _ hw)
  have hown : s.vm.findClass "TypedMill" = some m.cls := findClass_of_methodNamed B.named
  have hlocks := B.notSynchronized
  have htab : c.exceptionTable.toList = [] := by simpa using B.noHandlers (hts0 _ List.mem_cons_self)
  subst hsz
  have hD := hD0.self (sz := s.heap.size)
  generalize hAe : va_A (sm_ws shC G D M) s.heap.size = A at hD hG hxk ⊢
  have hA : ∀ q : Nat, s.heap.size ≤ q → A q := fun q h => by rw [← hAe]; exact Or.inr h
  have hS : va_S A s.heap s.heap [] := va_S.rf
  have hl := lv_entry ([.ref (sm_ad G 60), .int x]) (n := 3) (Nat.le_of_ble_eq_true rfl)
  rw [lg_entry_eq]
  generalize (lg_sl ([.ref (sm_ad G 60), .int x]) ++ List.replicate (3 - (lg_sl ([.ref (sm_ad G 60), .int x])).length) Slot.unset).toArray = ls at hl ⊢
  replace hl : lv_has ls 3 [(0, .ref (sm_ad G 60)), (1, .int x)] := hl
  refine lv_aload_n hx hb (show decode prog_1_method_6_code 0 = .ok (.aload_n 0, 1) by decide +kernel) rfl (lv_at hl 0 rfl) ?_
  refine hs_get (j := 59) (k := 1) (a := 1) (b := 9) (C := "TypedMill") (T := tF0) (nF := 9) hx hb hown hts hK hP rfl rfl rfl (by decide) (sm_mem1 460 (by decide +kernel) (by decide +kernel)) rfl (show decode prog_1_method_6_code 1 = .ok (.getfield 19, 3) by decide +kernel) ?_
  refine lv_iload_n hx hb (show decode prog_1_method_6_code 4 = .ok (.iload_n 1, 1) by decide +kernel) rfl (lv_at hl 1 rfl) ?_
  refine W.eq (g2 := F0 m 5 ls ((([.int x] : List Value).map (sm_cz (sm_ad G))).reverse ++ .ref (sm_ad G (8 + 1)) :: [])) rfl ?_
  refine wc_V (wr := []) (d := 0) (ix := 100) (j := 8) hx hb hml hown hts (m135 h1) pq135 (sm_mem1 538 (by decide +kernel) (by decide +kernel)) (sm_mem1 528 (by decide +kernel) (by decide +kernel)) (sm_mem1 529 (by decide +kernel) (by decide +kernel)) (T := tF2) (N := 7) rfl rfl hK (by rw [List.append_nil]; exact hP) (by rw [List.append_nil]; exact hD) hS hA hG (Nat.le_of_ble_eq_true rfl) (Nat.le_of_ble_eq_true rfl) (Nat.le_of_ble_eq_true rfl) (Nat.le_of_ble_eq_true rfl) hl.1 rfl (Nat.le_of_ble_eq_true rfl) (by decide +kernel) (fun H locs hP hD hS => ?_)
  rw [List.append_nil] at hP hD
  replace hP : va_P G.1 smCl (sm_ws shC G D M1) _ := hP
  replace hD : va_D A (sm_ws shC G D M1) := hD
  refine W.eq (g2 := F0 m 8 ls [.int r1]) rfl ?_
  refine lv_if_ne hx hb (show decode prog_1_method_6_code 8 = .ok (.ifCond .ne 11, 3) by decide +kernel) (tgt := 19) (by decide) (fun _ => ?_) (fun h => absurd h (hr1))
  refine W.eq (g2 := F0 m 19 ls []) rfl ?_
  refine lv_aload_n hx hb (show decode prog_1_method_6_code 19 = .ok (.aload_n 0, 1) by decide +kernel) rfl (lv_at hl 0 rfl) ?_
  refine lv_iload_n hx hb (show decode prog_1_method_6_code 20 = .ok (.iload_n 1, 1) by decide +kernel) rfl (lv_at hl 1 rfl) ?_
  refine W.eq (g2 := F0 m 21 ls ((([.int x] : List Value).map (sm_cz (sm_ad G))).reverse ++ .ref (sm_ad G (59 + 1)) :: [])) rfl ?_
  refine wc_V (wr := []) (d := 26) (ix := 101) (j := 59) hx hb hml hown hts (m14 h2) pq14 (sm_mem1 539 (by decide +kernel) (by decide +kernel)) (sm_mem1 541 (by decide +kernel) (by decide +kernel)) (sm_mem1 3 (by decide +kernel) (by decide +kernel)) (T := tF0) (N := 9) rfl rfl hK (by rw [List.append_nil]; exact hP) (by rw [List.append_nil]; exact hD) hS hA hG (Nat.le_of_ble_eq_true rfl) (Nat.le_of_ble_eq_true rfl) (Nat.le_of_ble_eq_true rfl) (Nat.le_of_ble_eq_true rfl) hl.1 rfl (Nat.le_of_ble_eq_true rfl) (by decide +kernel) (fun H locs hP hD hS => ?_)
  rw [List.append_nil] at hP hD
  replace hP : va_P G.1 smCl (sm_ws shC G D M2) _ := hP
  replace hD : va_D A (sm_ws shC G D M2) := hD
  refine W.eq (g2 := F0 m 24 ls [.int t]) rfl ?_
  refine lv_if_eq hx hb (show decode prog_1_method_6_code 24 = .ok (.ifCond .eq 11, 3) by decide +kernel) (tgt := 35) (by decide) (fun h => absurd h (ht)) (fun _ => ?_)
  refine W.eq (g2 := F0 m 27 ls []) rfl ?_
  exact xt_throw (own := "TypedMill") (cls := "java/lang/IllegalArgumentException") (names := ["java/lang/RuntimeException", "java/lang/Exception"]) (ixN := 107) (ic := 109) (nL := 3) hfl hx hb hml hl.1 hown hts hlocks htab hxk hS (by decide +kernel) (by decide +kernel) (sm_mem1 876 (by decide +kernel) (by decide +kernel)) (sm_mem1 877 (by decide +kernel) (by decide +kernel)) (sm_mem1 119 (by decide +kernel) (by decide +kernel)) xa_IA (by decide +kernel) (by decide +kernel) (by decide +kernel) (by decide +kernel) (Nat.le_of_ble_eq_true rfl) (Nat.le_of_ble_eq_true rfl) (Nat.le_of_ble_eq_true rfl) (Nat.le_of_ble_eq_true rfl) (Nat.le_of_ble_eq_true rfl) (fun y t ce h1 h2 h3 h4 h5 h6 => ⟨⟨ce, h1, h2, h3⟩, ⟨fun k q hq => (hP k q hq).kept (h4 q.1 ((hP k q hq).lt)), va_K.moved h6.alike hK, hD⟩, Nat.le_trans hS.1 h5, fun q g1 g2 => by rw [h4 q (Nat.lt_of_lt_of_le g1 hS.1)]; exact hS.2.1 q g1 g2⟩) hS.2.2
set_option maxRecDepth 100000 in
set_option maxHeartbeats 4000000 in
theorem xe_ev3 (l : Launch) (hfl : l.flags = flags0) (G : sm_G) (sz : Nat) {x : Int32} {D : sm_D} {M M1 M2 M3 : sm_M} {r1 v : Int32} (h1 : jE_has x D M = some (r1, D, M1)) (hr1 : r1 ≠ 0) (h2 : jA_typeOf x D M1 = some (0, D, M2)) (h3 : jV_answerOf x D M2 = some (v, D, M3)) (ho : M3 18 9 ≠ 0) : xt_Met l ⟨"TypedMill", "evaluate", "(I)I"⟩ (Cond.code ⟨"TypedMill", "evaluate", "(I)I"⟩ prog_1_method_6_code 3 (some .int) :: smT) xe_rm (xe_P G sz x D M) (xt_Q "java/lang/IllegalStateException" (xe_B G D M3 (va_A (sm_ws shC G D M) sz)) (va_A (sm_ws shC G D M) sz)) 1 6 (va_A (sm_ws shC G D M) sz) := by
  refine xt_ofW (cc := prog_1_method_6_code) (maxL := 3) (ret := some .int) (ws' := smT) (by decide) rfl ?_
  intro p e s m args below meth c s₁ B hml hv
  obtain ⟨rfl, hsz, hP, hK, hD0, hG, hxk⟩ := hv
  have hx := B.exec
  have hb := B.bytes
  have hr := B.returns
  have hts0 := atoms_spec (ws := Cond.code ⟨"TypedMill", "evaluate", "(I)I"⟩ prog_1_method_6_code 3 (some .int) :: smT) B.pre
  have hts : ∀ w ∈ smT, w.before _ s = true := fun w hw => hts0 w (List.mem_cons_of_mem _ hw)
  have hown : s.vm.findClass "TypedMill" = some m.cls := findClass_of_methodNamed B.named
  have hlocks := B.notSynchronized
  have htab : c.exceptionTable.toList = [] := by simpa using B.noHandlers (hts0 _ List.mem_cons_self)
  subst hsz
  have hD := hD0.self (sz := s.heap.size)
  generalize hAe : va_A (sm_ws shC G D M) s.heap.size = A at hD hG hxk ⊢
  have hA : ∀ q : Nat, s.heap.size ≤ q → A q := fun q h => by rw [← hAe]; exact Or.inr h
  have hS : va_S A s.heap s.heap [] := va_S.rf
  have hl := lv_entry ([.ref (sm_ad G 60), .int x]) (n := 3) (Nat.le_of_ble_eq_true rfl)
  rw [lg_entry_eq]
  generalize (lg_sl ([.ref (sm_ad G 60), .int x]) ++ List.replicate (3 - (lg_sl ([.ref (sm_ad G 60), .int x])).length) Slot.unset).toArray = ls at hl ⊢
  replace hl : lv_has ls 3 [(0, .ref (sm_ad G 60)), (1, .int x)] := hl
  refine lv_aload_n hx hb (show decode prog_1_method_6_code 0 = .ok (.aload_n 0, 1) by decide +kernel) rfl (lv_at hl 0 rfl) ?_
  refine hs_get (j := 59) (k := 1) (a := 1) (b := 9) (C := "TypedMill") (T := tF0) (nF := 9) hx hb hown hts hK hP rfl rfl rfl (by decide) (sm_mem1 460 (by decide +kernel) (by decide +kernel)) rfl (show decode prog_1_method_6_code 1 = .ok (.getfield 19, 3) by decide +kernel) ?_
  refine lv_iload_n hx hb (show decode prog_1_method_6_code 4 = .ok (.iload_n 1, 1) by decide +kernel) rfl (lv_at hl 1 rfl) ?_
  refine W.eq (g2 := F0 m 5 ls ((([.int x] : List Value).map (sm_cz (sm_ad G))).reverse ++ .ref (sm_ad G (8 + 1)) :: [])) rfl ?_
  refine wc_V (wr := []) (d := 0) (ix := 100) (j := 8) hx hb hml hown hts (m135 h1) pq135 (sm_mem1 538 (by decide +kernel) (by decide +kernel)) (sm_mem1 528 (by decide +kernel) (by decide +kernel)) (sm_mem1 529 (by decide +kernel) (by decide +kernel)) (T := tF2) (N := 7) rfl rfl hK (by rw [List.append_nil]; exact hP) (by rw [List.append_nil]; exact hD) hS hA hG (Nat.le_of_ble_eq_true rfl) (Nat.le_of_ble_eq_true rfl) (Nat.le_of_ble_eq_true rfl) (Nat.le_of_ble_eq_true rfl) hl.1 rfl (Nat.le_of_ble_eq_true rfl) (by decide +kernel) (fun H locs hP hD hS => ?_)
  rw [List.append_nil] at hP hD
  replace hP : va_P G.1 smCl (sm_ws shC G D M1) _ := hP
  replace hD : va_D A (sm_ws shC G D M1) := hD
  refine W.eq (g2 := F0 m 8 ls [.int r1]) rfl ?_
  refine lv_if_ne hx hb (show decode prog_1_method_6_code 8 = .ok (.ifCond .ne 11, 3) by decide +kernel) (tgt := 19) (by decide) (fun _ => ?_) (fun h => absurd h (hr1))
  refine W.eq (g2 := F0 m 19 ls []) rfl ?_
  refine lv_aload_n hx hb (show decode prog_1_method_6_code 19 = .ok (.aload_n 0, 1) by decide +kernel) rfl (lv_at hl 0 rfl) ?_
  refine lv_iload_n hx hb (show decode prog_1_method_6_code 20 = .ok (.iload_n 1, 1) by decide +kernel) rfl (lv_at hl 1 rfl) ?_
  refine W.eq (g2 := F0 m 21 ls ((([.int x] : List Value).map (sm_cz (sm_ad G))).reverse ++ .ref (sm_ad G (59 + 1)) :: [])) rfl ?_
  refine wc_V (wr := []) (d := 26) (ix := 101) (j := 59) hx hb hml hown hts (m14 h2) pq14 (sm_mem1 539 (by decide +kernel) (by decide +kernel)) (sm_mem1 541 (by decide +kernel) (by decide +kernel)) (sm_mem1 3 (by decide +kernel) (by decide +kernel)) (T := tF0) (N := 9) rfl rfl hK (by rw [List.append_nil]; exact hP) (by rw [List.append_nil]; exact hD) hS hA hG (Nat.le_of_ble_eq_true rfl) (Nat.le_of_ble_eq_true rfl) (Nat.le_of_ble_eq_true rfl) (Nat.le_of_ble_eq_true rfl) hl.1 rfl (Nat.le_of_ble_eq_true rfl) (by decide +kernel) (fun H locs hP hD hS => ?_)
  rw [List.append_nil] at hP hD
  replace hP : va_P G.1 smCl (sm_ws shC G D M2) _ := hP
  replace hD : va_D A (sm_ws shC G D M2) := hD
  refine W.eq (g2 := F0 m 24 ls [.int 0]) rfl ?_
  refine lv_if_eq hx hb (show decode prog_1_method_6_code 24 = .ok (.ifCond .eq 11, 3) by decide +kernel) (tgt := 35) (by decide) (fun _ => ?_) (fun h => absurd h (not_not_intro rfl))
  refine W.eq (g2 := F0 m 35 ls []) rfl ?_
  refine lv_aload_n hx hb (show decode prog_1_method_6_code 35 = .ok (.aload_n 0, 1) by decide +kernel) rfl (lv_at hl 0 rfl) ?_
  refine hs_get (j := 59) (k := 3) (a := 1) (b := 18) (C := "TypedMill") (T := tF0) (nF := 9) hx hb hown hts hK hP rfl rfl rfl (by decide) (sm_mem1 462 (by decide +kernel) (by decide +kernel)) rfl (show decode prog_1_method_6_code 36 = .ok (.getfield 37, 3) by decide +kernel) ?_
  refine lv_iload_n hx hb (show decode prog_1_method_6_code 39 = .ok (.iload_n 1, 1) by decide +kernel) rfl (lv_at hl 1 rfl) ?_
  refine W.eq (g2 := F0 m 40 ls ((([.int x] : List Value).map (sm_cz (sm_ad G))).reverse ++ .ref (sm_ad G (17 + 1)) :: [])) rfl ?_
  refine wc_V (wr := []) (d := 123) (ix := 110) (j := 17) hx hb hml hown hts (m127 h3) pq127 (sm_mem1 891 (by decide +kernel) (by decide +kernel)) (sm_mem1 892 (by decide +kernel) (by decide +kernel)) (sm_mem1 893 (by decide +kernel) (by decide +kernel)) (T := tF4) (N := 10) rfl rfl hK (by rw [List.append_nil]; exact hP) (by rw [List.append_nil]; exact hD) hS hA hG (Nat.le_of_ble_eq_true rfl) (Nat.le_of_ble_eq_true rfl) (Nat.le_of_ble_eq_true rfl) (Nat.le_of_ble_eq_true rfl) hl.1 rfl (Nat.le_of_ble_eq_true rfl) (by decide +kernel) (fun H locs hP hD hS => ?_)
  rw [List.append_nil] at hP hD
  replace hP : va_P G.1 smCl (sm_ws shC G D M3) _ := hP
  replace hD : va_D A (sm_ws shC G D M3) := hD
  refine W.eq (g2 := F0 m 43 ls [.int v]) rfl ?_
  refine lv_istore_n hx hb (show decode prog_1_method_6_code 43 = .ok (.istore_n 2, 1) by decide +kernel) rfl hl (by decide) rfl ?_
  clear hl
  intro ls hl
  replace hl : lv_has ls 3 [(2, .int v), (0, .ref (sm_ad G 60)), (1, .int x)] := hl
  refine W.eq (g2 := F0 m 44 ls []) rfl ?_
  refine lv_aload_n hx hb (show decode prog_1_method_6_code 44 = .ok (.aload_n 0, 1) by decide +kernel) rfl (lv_at hl 1 rfl) ?_
  refine hs_get (j := 59) (k := 3) (a := 1) (b := 18) (C := "TypedMill") (T := tF0) (nF := 9) hx hb hown hts hK hP rfl rfl rfl (by decide) (sm_mem1 462 (by decide +kernel) (by decide +kernel)) rfl (show decode prog_1_method_6_code 45 = .ok (.getfield 37, 3) by decide +kernel) ?_
  refine hs_get (j := 17) (k := 9) (a := 3) (b := 0) (C := "TypedMill$Evaluator") (T := tF4) (nF := 10) hx hb hown hts hK hP rfl rfl rfl (by decide) (sm_mem1 265 (by decide +kernel) (by decide +kernel)) rfl (show decode prog_1_method_6_code 48 = .ok (.getfield 113, 3) by decide +kernel) ?_
  refine W.eq (g2 := F0 m 51 ls [.int (M3 18 9)]) rfl ?_
  refine lv_if_eq hx hb (show decode prog_1_method_6_code 51 = .ok (.ifCond .eq 11, 3) by decide +kernel) (tgt := 62) (by decide) (fun h => absurd h (ho)) (fun _ => ?_)
  refine W.eq (g2 := F0 m 54 ls []) rfl ?_
  exact xt_throw (own := "TypedMill") (cls := "java/lang/IllegalStateException") (names := ["java/lang/RuntimeException", "java/lang/Exception"]) (ixN := 117) (ic := 119) (nL := 3) hfl hx hb hml hl.1 hown hts hlocks htab hxk hS (by decide +kernel) (by decide +kernel) (sm_mem1 923 (by decide +kernel) (by decide +kernel)) (sm_mem1 924 (by decide +kernel) (by decide +kernel)) (sm_mem1 120 (by decide +kernel) (by decide +kernel)) xa_IS (by decide +kernel) (by decide +kernel) (by decide +kernel) (by decide +kernel) (Nat.le_of_ble_eq_true rfl) (Nat.le_of_ble_eq_true rfl) (Nat.le_of_ble_eq_true rfl) (Nat.le_of_ble_eq_true rfl) (Nat.le_of_ble_eq_true rfl) (fun y t ce h1 h2 h3 h4 h5 h6 => ⟨⟨ce, h1, h2, h3⟩, ⟨fun k q hq => (hP k q hq).kept (h4 q.1 ((hP k q hq).lt)), va_K.moved h6.alike hK, hD⟩, Nat.le_trans hS.1 h5, fun q g1 g2 => by rw [h4 q (Nat.lt_of_lt_of_le g1 hS.1)]; exact hS.2.1 q g1 g2⟩) hS.2.2
set_option maxRecDepth 100000 in
set_option maxHeartbeats 4000000 in
theorem xe_ev4 {x : Int32} {D : sm_D} {M M1 M2 M3 : sm_M} {r1 v : Int32} (h1 : jE_has x D M = some (r1, D, M1)) (hr1 : r1 ≠ 0) (h2 : jA_typeOf x D M1 = some (0, D, M2)) (h3 : jV_answerOf x D M2 = some (v, D, M3)) (ho : M3 18 9 = 0) : sm_MJ smT smCl smSa shC fEv 130 [.ref 60, .int x] D M (v, D, M3) := by
  intro l G sz
  refine Met.ofW (cc := prog_1_method_6_code) (maxL := 3) (ret := some .int) (ws' := smT) (by decide) rfl ?_
  intro p e s m args below meth c s₁ B hml hv
  obtain ⟨rfl, hsz, hP, hK, hD0, hG⟩ := hv
  have hx := B.exec
  have hb := B.bytes
  have hr := B.returns
  have hts0 := atoms_spec (ws := Cond.code ⟨"TypedMill", "evaluate", "(I)I"⟩ prog_1_method_6_code 3 (some .int) :: smT) B.pre
  have hts : ∀ w ∈ smT, w.before _ s = true := fun w hw => hts0 w (List.mem_cons_of_mem _ hw)
  have hown : s.vm.findClass "TypedMill" = some m.cls := findClass_of_methodNamed B.named
  have hlocks := B.notSynchronized
  have htab : c.exceptionTable.toList = [] := by simpa using B.noHandlers (hts0 _ List.mem_cons_self)
  subst hsz
  have hD := hD0.self (sz := s.heap.size)
  generalize hAe : va_A (sm_ws shC G D M) s.heap.size = A at hD hG ⊢
  have hA : ∀ q : Nat, s.heap.size ≤ q → A q := fun q h => by rw [← hAe]; exact Or.inr h
  have hS : va_S A s.heap s.heap [] := va_S.rf
  have hl := lv_entry (([.ref 60, .int x] : List Value).map (sm_cz (sm_ad G))) (n := 3) (Nat.le_of_ble_eq_true rfl)
  rw [lg_entry_eq]
  generalize (lg_sl (([.ref 60, .int x] : List Value).map (sm_cz (sm_ad G))) ++ List.replicate (3 - (lg_sl (([.ref 60, .int x] : List Value).map (sm_cz (sm_ad G)))).length) Slot.unset).toArray = ls at hl ⊢
  replace hl : lv_has ls 3 [(0, .ref (sm_ad G 60)), (1, .int x)] := hl
  refine lv_aload_n hx hb (show decode prog_1_method_6_code 0 = .ok (.aload_n 0, 1) by decide +kernel) rfl (lv_at hl 0 rfl) ?_
  refine hs_get (j := 59) (k := 1) (a := 1) (b := 9) (C := "TypedMill") (T := tF0) (nF := 9) hx hb hown hts hK hP rfl rfl rfl (by decide) (sm_mem1 460 (by decide +kernel) (by decide +kernel)) rfl (show decode prog_1_method_6_code 1 = .ok (.getfield 19, 3) by decide +kernel) ?_
  refine lv_iload_n hx hb (show decode prog_1_method_6_code 4 = .ok (.iload_n 1, 1) by decide +kernel) rfl (lv_at hl 1 rfl) ?_
  refine W.eq (g2 := F0 m 5 ls ((([.int x] : List Value).map (sm_cz (sm_ad G))).reverse ++ .ref (sm_ad G (8 + 1)) :: [])) rfl ?_
  refine wc_V (wr := []) (d := 0) (ix := 100) (j := 8) hx hb hml hown hts (m135 h1) pq135 (sm_mem1 538 (by decide +kernel) (by decide +kernel)) (sm_mem1 528 (by decide +kernel) (by decide +kernel)) (sm_mem1 529 (by decide +kernel) (by decide +kernel)) (T := tF2) (N := 7) rfl rfl hK (by rw [List.append_nil]; exact hP) (by rw [List.append_nil]; exact hD) hS hA hG (Nat.le_of_ble_eq_true rfl) (Nat.le_of_ble_eq_true rfl) (Nat.le_of_ble_eq_true rfl) (Nat.le_of_ble_eq_true rfl) hl.1 rfl (Nat.le_of_ble_eq_true rfl) (by decide +kernel) (fun H locs hP hD hS => ?_)
  rw [List.append_nil] at hP hD
  replace hP : va_P G.1 smCl (sm_ws shC G D M1) _ := hP
  replace hD : va_D A (sm_ws shC G D M1) := hD
  refine W.eq (g2 := F0 m 8 ls [.int r1]) rfl ?_
  refine lv_if_ne hx hb (show decode prog_1_method_6_code 8 = .ok (.ifCond .ne 11, 3) by decide +kernel) (tgt := 19) (by decide) (fun _ => ?_) (fun h => absurd h (hr1))
  refine W.eq (g2 := F0 m 19 ls []) rfl ?_
  refine lv_aload_n hx hb (show decode prog_1_method_6_code 19 = .ok (.aload_n 0, 1) by decide +kernel) rfl (lv_at hl 0 rfl) ?_
  refine lv_iload_n hx hb (show decode prog_1_method_6_code 20 = .ok (.iload_n 1, 1) by decide +kernel) rfl (lv_at hl 1 rfl) ?_
  refine W.eq (g2 := F0 m 21 ls ((([.int x] : List Value).map (sm_cz (sm_ad G))).reverse ++ .ref (sm_ad G (59 + 1)) :: [])) rfl ?_
  refine wc_V (wr := []) (d := 26) (ix := 101) (j := 59) hx hb hml hown hts (m14 h2) pq14 (sm_mem1 539 (by decide +kernel) (by decide +kernel)) (sm_mem1 541 (by decide +kernel) (by decide +kernel)) (sm_mem1 3 (by decide +kernel) (by decide +kernel)) (T := tF0) (N := 9) rfl rfl hK (by rw [List.append_nil]; exact hP) (by rw [List.append_nil]; exact hD) hS hA hG (Nat.le_of_ble_eq_true rfl) (Nat.le_of_ble_eq_true rfl) (Nat.le_of_ble_eq_true rfl) (Nat.le_of_ble_eq_true rfl) hl.1 rfl (Nat.le_of_ble_eq_true rfl) (by decide +kernel) (fun H locs hP hD hS => ?_)
  rw [List.append_nil] at hP hD
  replace hP : va_P G.1 smCl (sm_ws shC G D M2) _ := hP
  replace hD : va_D A (sm_ws shC G D M2) := hD
  refine W.eq (g2 := F0 m 24 ls [.int 0]) rfl ?_
  refine lv_if_eq hx hb (show decode prog_1_method_6_code 24 = .ok (.ifCond .eq 11, 3) by decide +kernel) (tgt := 35) (by decide) (fun _ => ?_) (fun h => absurd h (not_not_intro rfl))
  refine W.eq (g2 := F0 m 35 ls []) rfl ?_
  refine lv_aload_n hx hb (show decode prog_1_method_6_code 35 = .ok (.aload_n 0, 1) by decide +kernel) rfl (lv_at hl 0 rfl) ?_
  refine hs_get (j := 59) (k := 3) (a := 1) (b := 18) (C := "TypedMill") (T := tF0) (nF := 9) hx hb hown hts hK hP rfl rfl rfl (by decide) (sm_mem1 462 (by decide +kernel) (by decide +kernel)) rfl (show decode prog_1_method_6_code 36 = .ok (.getfield 37, 3) by decide +kernel) ?_
  refine lv_iload_n hx hb (show decode prog_1_method_6_code 39 = .ok (.iload_n 1, 1) by decide +kernel) rfl (lv_at hl 1 rfl) ?_
  refine W.eq (g2 := F0 m 40 ls ((([.int x] : List Value).map (sm_cz (sm_ad G))).reverse ++ .ref (sm_ad G (17 + 1)) :: [])) rfl ?_
  refine wc_V (wr := []) (d := 123) (ix := 110) (j := 17) hx hb hml hown hts (m127 h3) pq127 (sm_mem1 891 (by decide +kernel) (by decide +kernel)) (sm_mem1 892 (by decide +kernel) (by decide +kernel)) (sm_mem1 893 (by decide +kernel) (by decide +kernel)) (T := tF4) (N := 10) rfl rfl hK (by rw [List.append_nil]; exact hP) (by rw [List.append_nil]; exact hD) hS hA hG (Nat.le_of_ble_eq_true rfl) (Nat.le_of_ble_eq_true rfl) (Nat.le_of_ble_eq_true rfl) (Nat.le_of_ble_eq_true rfl) hl.1 rfl (Nat.le_of_ble_eq_true rfl) (by decide +kernel) (fun H locs hP hD hS => ?_)
  rw [List.append_nil] at hP hD
  replace hP : va_P G.1 smCl (sm_ws shC G D M3) _ := hP
  replace hD : va_D A (sm_ws shC G D M3) := hD
  refine W.eq (g2 := F0 m 43 ls [.int v]) rfl ?_
  refine lv_istore_n hx hb (show decode prog_1_method_6_code 43 = .ok (.istore_n 2, 1) by decide +kernel) rfl hl (by decide) rfl ?_
  clear hl
  intro ls hl
  replace hl : lv_has ls 3 [(2, .int v), (0, .ref (sm_ad G 60)), (1, .int x)] := hl
  refine W.eq (g2 := F0 m 44 ls []) rfl ?_
  refine lv_aload_n hx hb (show decode prog_1_method_6_code 44 = .ok (.aload_n 0, 1) by decide +kernel) rfl (lv_at hl 1 rfl) ?_
  refine hs_get (j := 59) (k := 3) (a := 1) (b := 18) (C := "TypedMill") (T := tF0) (nF := 9) hx hb hown hts hK hP rfl rfl rfl (by decide) (sm_mem1 462 (by decide +kernel) (by decide +kernel)) rfl (show decode prog_1_method_6_code 45 = .ok (.getfield 37, 3) by decide +kernel) ?_
  refine hs_get (j := 17) (k := 9) (a := 3) (b := 0) (C := "TypedMill$Evaluator") (T := tF4) (nF := 10) hx hb hown hts hK hP rfl rfl rfl (by decide) (sm_mem1 265 (by decide +kernel) (by decide +kernel)) rfl (show decode prog_1_method_6_code 48 = .ok (.getfield 113, 3) by decide +kernel) ?_
  refine W.eq (g2 := F0 m 51 ls [.int (M3 18 9)]) rfl ?_
  refine lv_if_eq hx hb (show decode prog_1_method_6_code 51 = .ok (.ifCond .eq 11, 3) by decide +kernel) (tgt := 62) (by decide) (fun _ => ?_) (fun h => absurd h (not_not_intro ho))
  refine W.eq (g2 := F0 m 62 ls []) rfl ?_
  refine lv_iload_n hx hb (show decode prog_1_method_6_code 62 = .ok (.iload_n 2, 1) by decide +kernel) rfl (lv_at hl 0 rfl) ?_
  exact W.iret hx hb hr (fun t ht hW => ⟨rfl, ⟨by rw [ht]; exact hP, va_K.moved hW.alike hK, hD⟩, hS.F ht⟩) hS.2.2 (by decide +kernel)
