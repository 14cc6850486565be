/-! the law's helpers: by program -/
def lh_w (G : sm_G) (cL : ClassId) (ao : Nat) (f : Nat → Int64) (D : sm_D) (M : sm_M) : va_W := sm_ws shC G D M ++ [(ao, .inl (cL, 1, .inr (.inl f)))]
def lh_tys (G : sm_G) (cL : ClassId) : List (ClassId × FieldType) := [(G.2.1, .int), (G.2.2.1, .boolean), (cL, .long)]
def lh_rm (k : Nat) : Room := { frames := 134, cells := k, slots := 6 * k, locals := 8600 }
def lh_P (G : sm_G) (cL : ClassId) (sz ao : Nat) (f : Nat → Int64) (x : Int32) (D : sm_D) (M : sm_M) : Array Value → State → Prop := va_Pc [.ref (sm_ad G 60), .int x, .ref ao] (fun U => U.heap.size = sz ∧ va_P G.1 smCl (lh_w G cL ao f D M) U.heap ∧ va_K G.1 smCl (lh_tys G cL) U ∧ va_D (fun _ => True) (lh_w G cL ao f D M) ∧ sm_sta smSa G (va_A (lh_w G cL ao f D M) sz) U U.heap ∧ xt_K (va_A (lh_w G cL ao f D M) sz) U U.heap)
def lh_Q (G : sm_G) (cL : ClassId) (ao : Nat) (k : Int32) (D : sm_D) (M : sm_M) (f : Nat → Int64) (A : Nat → Prop) : Array Value → State → Outcome → State → Prop := va_Qi (fun (r : Int32) (_ : Unit) => r = k) (fun _ t => va_P G.1 smCl (lh_w G cL ao f D M) t.heap ∧ va_K G.1 smCl (lh_tys G cL) t ∧ va_D A (lh_w G cL ao f D M)) A
theorem lh_at {G : sm_G} {cL : ClassId} {ao : Nat} {f : Nat → Int64} {D : sm_D} {M : sm_M} : (sm_ws shC G D M ++ [(ao, Sum.inl (cL, 1, .inr (.inl f)))])[60]? = some (ao, Sum.inl (cL, 1, .inr (.inl f))) := by
  rw [List.getElem?_append_right (by rw [sm_ws_len]; decide), sm_ws_len]
  rfl
theorem lh_set {G : sm_G} {D : sm_D} {M : sm_M} {a b : Nat × va_E} : (sm_ws shC G D M ++ [a]).set 60 b = sm_ws shC G D M ++ [b] := by
  rw [List.set_append_right _ _ (by rw [sm_ws_len]; decide), sm_ws_len]
  rfl
theorem pqEv : sm_PQ fEv := ⟨sm_mem1 811 (by decide +kernel) (by decide +kernel), sm_mem1 103 (by decide +kernel) (by decide +kernel), by decide +kernel, ⟨by decide +kernel, by decide +kernel, by decide +kernel⟩, by decide, Or.inr (Or.inl rfl), by decide +kernel⟩
set_option maxRecDepth 100000 in
set_option maxHeartbeats 4000000 in
theorem lh_ev1 (l : Launch) (hfl : l.flags = flags0) (G : sm_G) (cL : ClassId) (sz ao : Nat) (f : Nat → Int64) {x : Int32} {D : sm_D} {M M1 : sm_M} (h1 : jE_has x D M = some (0, D, M1)) : Met l ⟨"TypedMillLaw", "evaluate", "(LTypedMill;I[J)I"⟩ (Cond.codeWith ⟨"TypedMillLaw", "evaluate", "(LTypedMill;I[J)I"⟩ method_3_code 4 (some .int) [(0, 9, 12, 13), (0, 9, 15, 15), (0, 9, 18, 17)] :: smT) (lh_rm 1) (lh_P G cL sz ao f x D M) (lh_Q G cL ao 1 D M1 f (va_A (lh_w G cL ao f D M) sz)) 1 6 (va_A (lh_w G cL ao f D M) sz) := by
  refine va_MetW (cc := method_3_code) (maxL := 4) (ret := some .int) (ws' := smT) (hh := [(0, 9, 12, 13), (0, 9, 15, 15), (0, 9, 18, 17)]) (by decide) rfl ?_
  intro p e s m args below meth c s₁ B hml hv
  obtain ⟨rfl, hsz, hP, hKL, hD0, hG, hxk⟩ := hv
  have hx := B.exec
  have hb := B.bytes
  have hr := B.returns
  have hts0 := atoms_spec (ws := Cond.codeWith ⟨"TypedMillLaw", "evaluate", "(LTypedMill;I[J)I"⟩ method_3_code 4 (some .int) [(0, 9, 12, 13), (0, 9, 15, 15), (0, 9, 18, 17)] :: smT) B.pre
  have hts : ∀ w ∈ smT, w.before _ s = true := fun w hw => hts0 w (List.mem_cons_of_mem _ hw)
  have hown : s.vm.findClass "TypedMillLaw" = some m.cls := findClass_of_methodNamed B.named
  have hlocks := B.notSynchronized
  obtain ⟨m9, meth9, c9, hn9, hm9, hc9, -, -, htb, -⟩ := Cond.codeWith_spec (hts0 _ List.mem_cons_self)
  cases B.named.symm.trans hn9
  cases B.method.symm.trans hm9
  cases (Stand.of_body B).code.symm.trans hc9
  subst hsz
  have hD := hD0.self (sz := s.heap.size)
  generalize hAe : va_A (lh_w G cL ao f D M) s.heap.size = A at hD hG hxk ⊢
  have hA : ∀ q : Nat, s.heap.size ≤ q → A q := fun q h => by rw [← hAe]; exact Or.inr h
  have hS : va_S A s.heap s.heap [] := va_S.rf
  have hl := lv_entry ([.ref (sm_ad G 60), .int x, .ref ao]) (n := 4) (Nat.le_of_ble_eq_true rfl)
  rw [lg_entry_eq]
  generalize (lg_sl ([.ref (sm_ad G 60), .int x, .ref ao]) ++ List.replicate (4 - (lg_sl ([.ref (sm_ad G 60), .int x, .ref ao])).length) Slot.unset).toArray = ls at hl ⊢
  replace hl : lv_has ls 4 [(0, .ref (sm_ad G 60)), (1, .int x), (2, .ref ao)] := hl
  have hK : va_K G.1 smCl (sm_tys G) s := hKL.sub [0, 1] rfl
  refine lv_aload_n hx hb (show decode method_3_code 0 = .ok (.aload_n 2, 1) by decide +kernel) rfl (lv_at hl 2 rfl) ?_
  refine lv_iconst (v := 0) hx hb (show decode method_3_code 1 = .ok (.iconst 0, 1) by decide +kernel) (by decide) ?_
  refine lv_aload_n hx hb (show decode method_3_code 2 = .ok (.aload_n 0, 1) by decide +kernel) rfl (lv_at hl 0 rfl) ?_
  refine lv_iload_n hx hb (show decode method_3_code 3 = .ok (.iload_n 1, 1) by decide +kernel) rfl (lv_at hl 1 rfl) ?_
  refine W.eq (g2 := F0 m 4 ls (([.int x] : List Value).reverse ++ .ref (sm_ad G (59 + 1)) :: [.int 0, .ref ao])) rfl ?_
  refine lh_throw (own := "TypedMillLaw") (cls := "java/util/NoSuchElementException") (nm := "java/util/NoSuchElementException") (nL := 4) (ix := 7) (maxL := 3) (pre := []) (row := ⟨0, 9, 12, 13⟩) (post := [⟨0, 9, 15, 15⟩, ⟨0, 9, 18, 17⟩]) hx hb hml hown hts hK hP hD hS hA hG hxk (xe_ev1 l hfl G _ h1) (sm_mem1 811 (by decide +kernel) (by decide +kernel)) (sm_mem1 808 (by decide +kernel) (by decide +kernel)) (sm_mem1 809 (by decide +kernel) (by decide +kernel)) (sm_mem1 810 (by decide +kernel) (by decide +kernel)) (sm_mem1 103 (by decide +kernel) (by decide +kernel)) rfl ⟨by decide +kernel, by decide +kernel, by decide +kernel⟩ (Nat.le_of_ble_eq_true rfl) (Nat.le_of_ble_eq_true rfl) (Nat.le_of_ble_eq_true rfl) (Nat.le_of_ble_eq_true rfl) hl.1 (Nat.le_of_ble_eq_true rfl) (by decide +kernel) (by rw [lh_tab htb]; rfl) (by simp) (by decide) (by decide) (hts _ (sm_mem1 805 (by decide +kernel) (by decide +kernel))) (hxk.words _ (by decide +kernel)) (fun z H locs hP hD hS => ?_)
  refine W.eq (g2 := F0 m 12 ls [.ref z]) rfl ?_
  refine lv_astore_n hx hb (show decode method_3_code 12 = .ok (.astore_n 3, 1) by decide +kernel) rfl hl (by decide) rfl ?_
  clear hl
  intro ls hl
  refine lv_iconst (v := 1) hx hb (show decode method_3_code 13 = .ok (.iconst 1, 1) by decide +kernel) (by decide) ?_
  exact W.iret hx hb hr (fun t ht hW => ⟨⟨_, (), rfl, rfl, by rw [ht]; exact hP, va_K.moved hW.alike hKL, hD⟩, hS.F ht⟩) hS.2.2 (by decide +kernel)
set_option maxRecDepth 100000 in
set_option maxHeartbeats 4000000 in
theorem lh_ev2 (l : Launch) (hfl : l.flags = flags0) (G : sm_G) (cL : ClassId) (sz ao : Nat) (f : Nat → Int64) {x : Int32} {D : sm_D} {M M1 M2 : sm_M} {r1 t : Int32} (h1 : jE_has x D M = some (r1, D, M1)) (hr1 : r1 ≠ 0) (h2 : jA_typeOf x D M1 = some (t, D, M2)) (ht : t ≠ 0) : Met l ⟨"TypedMillLaw", "evaluate", "(LTypedMill;I[J)I"⟩ (Cond.codeWith ⟨"TypedMillLaw", "evaluate", "(LTypedMill;I[J)I"⟩ method_3_code 4 (some .int) [(0, 9, 12, 13), (0, 9, 15, 15), (0, 9, 18, 17)] :: smT) (lh_rm 1) (lh_P G cL sz ao f x D M) (lh_Q G cL ao 2 D M2 f (va_A (lh_w G cL ao f D M) sz)) 1 6 (va_A (lh_w G cL ao f D M) sz) := by
  refine va_MetW (cc := method_3_code) (maxL := 4) (ret := some .int) (ws' := smT) (hh := [(0, 9, 12, 13), (0, 9, 15, 15), (0, 9, 18, 17)]) (by decide) rfl ?_
  intro p e s m args below meth c s₁ B hml hv
  obtain ⟨rfl, hsz, hP, hKL, hD0, hG, hxk⟩ := hv
  have hx := B.exec
  have hb := B.bytes
  have hr := B.returns
  have hts0 := atoms_spec (ws := Cond.codeWith ⟨"TypedMillLaw", "evaluate", "(LTypedMill;I[J)I"⟩ method_3_code 4 (some .int) [(0, 9, 12, 13), (0, 9, 15, 15), (0, 9, 18, 17)] :: smT) B.pre
  have hts : ∀ w ∈ smT, w.before _ s = true := fun w hw => hts0 w (List.mem_cons_of_mem _ hw)
  have hown : s.vm.findClass "TypedMillLaw" = some m.cls := findClass_of_methodNamed B.named
  have hlocks := B.notSynchronized
  obtain ⟨m9, meth9, c9, hn9, hm9, hc9, -, -, htb, -⟩ := Cond.codeWith_spec (hts0 _ List.mem_cons_self)
  cases B.named.symm.trans hn9
  cases B.method.symm.trans hm9
  cases (Stand.of_body B).code.symm.trans hc9
  subst hsz
  have hD := hD0.self (sz := s.heap.size)
  generalize hAe : va_A (lh_w G cL ao f D M) s.heap.size = A at hD hG hxk ⊢
  have hA : ∀ q : Nat, s.heap.size ≤ q → A q := fun q h => by rw [← hAe]; exact Or.inr h
  have hS : va_S A s.heap s.heap [] := va_S.rf
  have hl := lv_entry ([.ref (sm_ad G 60), .int x, .ref ao]) (n := 4) (Nat.le_of_ble_eq_true rfl)
  rw [lg_entry_eq]
  generalize (lg_sl ([.ref (sm_ad G 60), .int x, .ref ao]) ++ List.replicate (4 - (lg_sl ([.ref (sm_ad G 60), .int x, .ref ao])).length) Slot.unset).toArray = ls at hl ⊢
  replace hl : lv_has ls 4 [(0, .ref (sm_ad G 60)), (1, .int x), (2, .ref ao)] := hl
  have hK : va_K G.1 smCl (sm_tys G) s := hKL.sub [0, 1] rfl
  refine lv_aload_n hx hb (show decode method_3_code 0 = .ok (.aload_n 2, 1) by decide +kernel) rfl (lv_at hl 2 rfl) ?_
  refine lv_iconst (v := 0) hx hb (show decode method_3_code 1 = .ok (.iconst 0, 1) by decide +kernel) (by decide) ?_
  refine lv_aload_n hx hb (show decode method_3_code 2 = .ok (.aload_n 0, 1) by decide +kernel) rfl (lv_at hl 0 rfl) ?_
  refine lv_iload_n hx hb (show decode method_3_code 3 = .ok (.iload_n 1, 1) by decide +kernel) rfl (lv_at hl 1 rfl) ?_
  refine W.eq (g2 := F0 m 4 ls (([.int x] : List Value).reverse ++ .ref (sm_ad G (59 + 1)) :: [.int 0, .ref ao])) rfl ?_
  refine lh_throw (own := "TypedMillLaw") (cls := "java/lang/IllegalArgumentException") (nm := "java/lang/IllegalArgumentException") (nL := 4) (ix := 7) (maxL := 3) (pre := [⟨0, 9, 12, 13⟩]) (row := ⟨0, 9, 15, 15⟩) (post := [⟨0, 9, 18, 17⟩]) hx hb hml hown hts hK hP hD hS hA hG hxk (xe_ev2 l hfl G _ h1 hr1 h2 ht) (sm_mem1 811 (by decide +kernel) (by decide +kernel)) (sm_mem1 808 (by decide +kernel) (by decide +kernel)) (sm_mem1 809 (by decide +kernel) (by decide +kernel)) (sm_mem1 810 (by decide +kernel) (by decide +kernel)) (sm_mem1 103 (by decide +kernel) (by decide +kernel)) rfl ⟨by decide +kernel, by decide +kernel, by decide +kernel⟩ (Nat.le_of_ble_eq_true rfl) (Nat.le_of_ble_eq_true rfl) (Nat.le_of_ble_eq_true rfl) (Nat.le_of_ble_eq_true rfl) hl.1 (Nat.le_of_ble_eq_true rfl) (by decide +kernel) (by rw [lh_tab htb]; rfl) (List.forall_mem_cons.mpr ⟨⟨by decide, "java/util/NoSuchElementException", hts _ (sm_mem1 805 (by decide +kernel) (by decide +kernel)), hxk.2.1 ("java/lang/IllegalArgumentException", "java/util/NoSuchElementException") (by decide +kernel)⟩, fun _ h => absurd h List.not_mem_nil⟩) (by decide) (by decide) (hts _ (sm_mem1 806 (by decide +kernel) (by decide +kernel))) (hxk.words _ (by decide +kernel)) (fun z H locs hP hD hS => ?_)
  refine W.eq (g2 := F0 m 15 ls [.ref z]) rfl ?_
  refine lv_astore_n hx hb (show decode method_3_code 15 = .ok (.astore_n 3, 1) by decide +kernel) rfl hl (by decide) rfl ?_
  clear hl
  intro ls hl
  refine lv_iconst (v := 2) hx hb (show decode method_3_code 16 = .ok (.iconst 2, 1) by decide +kernel) (by decide) ?_
  exact W.iret hx hb hr (fun t ht hW => ⟨⟨_, (), rfl, rfl, by rw [ht]; exact hP, va_K.moved hW.alike hKL, hD⟩, hS.F ht⟩) hS.2.2 (by decide +kernel)
set_option maxRecDepth 100000 in
set_option maxHeartbeats 4000000 in
theorem lh_ev3 (l : Launch) (hfl : l.flags = flags0) (G : sm_G) (cL : ClassId) (sz ao : Nat) (f : Nat → Int64) {x : Int32} {D : sm_D} {M M1 M2 M3 : sm_M} {r1 v : Int32} (h1 : jE_has x D M = some (r1, D, M1)) (hr1 : r1 ≠ 0) (h2 : jA_typeOf x D M1 = some (0, D, M2)) (h3 : jV_answerOf x D M2 = some (v, D, M3)) (ho : M3 18 9 ≠ 0) : Met l ⟨"TypedMillLaw", "evaluate", "(LTypedMill;I[J)I"⟩ (Cond.codeWith ⟨"TypedMillLaw", "evaluate", "(LTypedMill;I[J)I"⟩ method_3_code 4 (some .int) [(0, 9, 12, 13), (0, 9, 15, 15), (0, 9, 18, 17)] :: smT) (lh_rm 1) (lh_P G cL sz ao f x D M) (lh_Q G cL ao 3 D M3 f (va_A (lh_w G cL ao f D M) sz)) 1 6 (va_A (lh_w G cL ao f D M) sz) := by
  refine va_MetW (cc := method_3_code) (maxL := 4) (ret := some .int) (ws' := smT) (hh := [(0, 9, 12, 13), (0, 9, 15, 15), (0, 9, 18, 17)]) (by decide) rfl ?_
  intro p e s m args below meth c s₁ B hml hv
  obtain ⟨rfl, hsz, hP, hKL, hD0, hG, hxk⟩ := hv
  have hx := B.exec
  have hb := B.bytes
  have hr := B.returns
  have hts0 := atoms_spec (ws := Cond.codeWith ⟨"TypedMillLaw", "evaluate", "(LTypedMill;I[J)I"⟩ method_3_code 4 (some .int) [(0, 9, 12, 13), (0, 9, 15, 15), (0, 9, 18, 17)] :: smT) B.pre
  have hts : ∀ w ∈ smT, w.before _ s = true := fun w hw => hts0 w (List.mem_cons_of_mem _ hw)
  have hown : s.vm.findClass "TypedMillLaw" = some m.cls := findClass_of_methodNamed B.named
  have hlocks := B.notSynchronized
  obtain ⟨m9, meth9, c9, hn9, hm9, hc9, -, -, htb, -⟩ := Cond.codeWith_spec (hts0 _ List.mem_cons_self)
  cases B.named.symm.trans hn9
  cases B.method.symm.trans hm9
  cases (Stand.of_body B).code.symm.trans hc9
  subst hsz
  have hD := hD0.self (sz := s.heap.size)
  generalize hAe : va_A (lh_w G cL ao f D M) s.heap.size = A at hD hG hxk ⊢
  have hA : ∀ q : Nat, s.heap.size ≤ q → A q := fun q h => by rw [← hAe]; exact Or.inr h
  have hS : va_S A s.heap s.heap [] := va_S.rf
  have hl := lv_entry ([.ref (sm_ad G 60), .int x, .ref ao]) (n := 4) (Nat.le_of_ble_eq_true rfl)
  rw [lg_entry_eq]
  generalize (lg_sl ([.ref (sm_ad G 60), .int x, .ref ao]) ++ List.replicate (4 - (lg_sl ([.ref (sm_ad G 60), .int x, .ref ao])).length) Slot.unset).toArray = ls at hl ⊢
  replace hl : lv_has ls 4 [(0, .ref (sm_ad G 60)), (1, .int x), (2, .ref ao)] := hl
  have hK : va_K G.1 smCl (sm_tys G) s := hKL.sub [0, 1] rfl
  refine lv_aload_n hx hb (show decode method_3_code 0 = .ok (.aload_n 2, 1) by decide +kernel) rfl (lv_at hl 2 rfl) ?_
  refine lv_iconst (v := 0) hx hb (show decode method_3_code 1 = .ok (.iconst 0, 1) by decide +kernel) (by decide) ?_
  refine lv_aload_n hx hb (show decode method_3_code 2 = .ok (.aload_n 0, 1) by decide +kernel) rfl (lv_at hl 0 rfl) ?_
  refine lv_iload_n hx hb (show decode method_3_code 3 = .ok (.iload_n 1, 1) by decide +kernel) rfl (lv_at hl 1 rfl) ?_
  refine W.eq (g2 := F0 m 4 ls (([.int x] : List Value).reverse ++ .ref (sm_ad G (59 + 1)) :: [.int 0, .ref ao])) rfl ?_
  refine lh_throw (own := "TypedMillLaw") (cls := "java/lang/IllegalStateException") (nm := "java/lang/IllegalStateException") (nL := 4) (ix := 7) (maxL := 3) (pre := [⟨0, 9, 12, 13⟩, ⟨0, 9, 15, 15⟩]) (row := ⟨0, 9, 18, 17⟩) (post := []) hx hb hml hown hts hK hP hD hS hA hG hxk (xe_ev3 l hfl G _ h1 hr1 h2 h3 ho) (sm_mem1 811 (by decide +kernel) (by decide +kernel)) (sm_mem1 808 (by decide +kernel) (by decide +kernel)) (sm_mem1 809 (by decide +kernel) (by decide +kernel)) (sm_mem1 810 (by decide +kernel) (by decide +kernel)) (sm_mem1 103 (by decide +kernel) (by decide +kernel)) rfl ⟨by decide +kernel, by decide +kernel, by decide +kernel⟩ (Nat.le_of_ble_eq_true rfl) (Nat.le_of_ble_eq_true rfl) (Nat.le_of_ble_eq_true rfl) (Nat.le_of_ble_eq_true rfl) hl.1 (Nat.le_of_ble_eq_true rfl) (by decide +kernel) (by rw [lh_tab htb]; rfl) (List.forall_mem_cons.mpr ⟨⟨by decide, "java/util/NoSuchElementException", hts _ (sm_mem1 805 (by decide +kernel) (by decide +kernel)), hxk.2.1 ("java/lang/IllegalStateException", "java/util/NoSuchElementException") (by decide +kernel)⟩, List.forall_mem_cons.mpr ⟨⟨by decide, "java/lang/IllegalArgumentException", hts _ (sm_mem1 806 (by decide +kernel) (by decide +kernel)), hxk.2.1 ("java/lang/IllegalStateException", "java/lang/IllegalArgumentException") (by decide +kernel)⟩, fun _ h => absurd h List.not_mem_nil⟩⟩) (by decide) (by decide) (hts _ (sm_mem1 807 (by decide +kernel) (by decide +kernel))) (hxk.words _ (by decide +kernel)) (fun z H locs hP hD hS => ?_)
  refine W.eq (g2 := F0 m 18 ls [.ref z]) rfl ?_
  refine lv_astore_n hx hb (show decode method_3_code 18 = .ok (.astore_n 3, 1) by decide +kernel) rfl hl (by decide) rfl ?_
  clear hl
  intro ls hl
  refine lv_iconst (v := 3) hx hb (show decode method_3_code 19 = .ok (.iconst 3, 1) by decide +kernel) (by decide) ?_
  exact W.iret hx hb hr (fun t ht hW => ⟨⟨_, (), rfl, rfl, by rw [ht]; exact hP, va_K.moved hW.alike hKL, hD⟩, hS.F ht⟩) hS.2.2 (by decide +kernel)
set_option maxRecDepth 100000 in
set_option maxHeartbeats 4000000 in
theorem lh_ev4 (l : Launch) (G : sm_G) (cL : ClassId) (sz ao : Nat) (f : Nat → Int64) {x : Int32} {D : sm_D} {M M1 M2 M3 : sm_M} {r1 v : Int32} (h1 : jE_has x D M = some (r1, D, M1)) (hr1 : r1 ≠ 0) (h2 : jA_typeOf x D M1 = some (0, D, M2)) (h3 : jV_answerOf x D M2 = some (v, D, M3)) (ho : M3 18 9 = 0) : Met l ⟨"TypedMillLaw", "evaluate", "(LTypedMill;I[J)I"⟩ (Cond.codeWith ⟨"TypedMillLaw", "evaluate", "(LTypedMill;I[J)I"⟩ method_3_code 4 (some .int) [(0, 9, 12, 13), (0, 9, 15, 15), (0, 9, 18, 17)] :: smT) (lh_rm 0) (lh_P G cL sz ao f x D M) (lh_Q G cL ao 0 D M3 (vp_updL f 0 (v).toInt64) (va_A (lh_w G cL ao f D M) sz)) 0 0 (va_A (lh_w G cL ao f D M) sz) := by
  refine va_MetW (cc := method_3_code) (maxL := 4) (ret := some .int) (ws' := smT) (hh := [(0, 9, 12, 13), (0, 9, 15, 15), (0, 9, 18, 17)]) (by decide) rfl ?_
  intro p e s m args below meth c s₁ B hml hv
  obtain ⟨rfl, hsz, hP, hKL, hD0, hG, hxk⟩ := hv
  have hx := B.exec
  have hb := B.bytes
  have hr := B.returns
  have hts0 := atoms_spec (ws := Cond.codeWith ⟨"TypedMillLaw", "evaluate", "(LTypedMill;I[J)I"⟩ method_3_code 4 (some .int) [(0, 9, 12, 13), (0, 9, 15, 15), (0, 9, 18, 17)] :: smT) B.pre
  have hts : ∀ w ∈ smT, w.before _ s = true := fun w hw => hts0 w (List.mem_cons_of_mem _ hw)
  have hown : s.vm.findClass "TypedMillLaw" = some m.cls := findClass_of_methodNamed B.named
  have hlocks := B.notSynchronized
  obtain ⟨m9, meth9, c9, hn9, hm9, hc9, -, -, htb, -⟩ := Cond.codeWith_spec (hts0 _ List.mem_cons_self)
  cases B.named.symm.trans hn9
  cases B.method.symm.trans hm9
  cases (Stand.of_body B).code.symm.trans hc9
  subst hsz
  have hD := hD0.self (sz := s.heap.size)
  generalize hAe : va_A (lh_w G cL ao f D M) s.heap.size = A at hD hG hxk ⊢
  have hA : ∀ q : Nat, s.heap.size ≤ q → A q := fun q h => by rw [← hAe]; exact Or.inr h
  have hS : va_S A s.heap s.heap [] := va_S.rf
  have hl := lv_entry ([.ref (sm_ad G 60), .int x, .ref ao]) (n := 4) (Nat.le_of_ble_eq_true rfl)
  rw [lg_entry_eq]
  generalize (lg_sl ([.ref (sm_ad G 60), .int x, .ref ao]) ++ List.replicate (4 - (lg_sl ([.ref (sm_ad G 60), .int x, .ref ao])).length) Slot.unset).toArray = ls at hl ⊢
  replace hl : lv_has ls 4 [(0, .ref (sm_ad G 60)), (1, .int x), (2, .ref ao)] := hl
  have hK : va_K G.1 smCl (sm_tys G) s := hKL.sub [0, 1] rfl
  refine lv_aload_n hx hb (show decode method_3_code 0 = .ok (.aload_n 2, 1) by decide +kernel) rfl (lv_at hl 2 rfl) ?_
  refine lv_iconst (v := 0) hx hb (show decode method_3_code 1 = .ok (.iconst 0, 1) by decide +kernel) (by decide) ?_
  refine lv_aload_n hx hb (show decode method_3_code 2 = .ok (.aload_n 0, 1) by decide +kernel) rfl (lv_at hl 0 rfl) ?_
  refine lv_iload_n hx hb (show decode method_3_code 3 = .ok (.iload_n 1, 1) by decide +kernel) rfl (lv_at hl 1 rfl) ?_
  refine W.eq (g2 := F0 m 4 ls ((([.int x] : List Value).map (sm_cz (sm_ad G))).reverse ++ .ref (sm_ad G (59 + 1)) :: [.int 0, .ref ao])) rfl ?_
  refine wc_V (wr := [(ao, .inl (cL, 1, .inr (.inl f)))]) (d := 130) (ix := 7) (j := 59) hx hb hml hown hts (xe_ev4 h1 hr1 h2 h3 ho) pqEv (sm_mem1 808 (by decide +kernel) (by decide +kernel)) (sm_mem1 809 (by decide +kernel) (by decide +kernel)) (sm_mem1 810 (by decide +kernel) (by decide +kernel)) (T := tF0) (N := 9) rfl rfl hK hP hD hS hA hG (Nat.le_of_ble_eq_true rfl) (Nat.le_of_ble_eq_true rfl) (Nat.le_of_ble_eq_true rfl) (Nat.le_of_ble_eq_true rfl) hl.1 rfl (Nat.le_of_ble_eq_true rfl) (by decide +kernel) (fun H locs hP hD hS => ?_)
  refine W.eq (g2 := F0 m 7 ls [.int (v), .int 0, .ref ao]) rfl ?_
  refine lv_i2l hx hb (show decode method_3_code 7 = .ok (.i2l, 1) by decide +kernel) rfl ?_
  refine va_last (tys := lh_tys G cL) (x := (v).toInt64) hx hb hKL hP hD hS 60 2 lh_at rfl (vp_in_iff.mpr (by decide)) (show decode method_3_code 8 = .ok (.lastore, 1) by decide +kernel) (fun H locs hP hD hS => ?_)
  rw [lh_set] at hP hD
  refine lv_goto hx hb (show decode method_3_code 9 = .ok (.goto 12, 3) by decide +kernel) (tgt := 21) (by decide) ?_
  refine lv_iconst (v := 0) hx hb (show decode method_3_code 21 = .ok (.iconst 0, 1) by decide +kernel) (by decide) ?_
  exact W.iret hx hb hr (fun t ht hW => ⟨⟨_, (), rfl, rfl, by rw [ht]; exact hP, va_K.moved hW.alike hKL, hD⟩, hS.F ht⟩) hS.2.2 (by decide +kernel)
set_option maxRecDepth 100000 in
set_option maxHeartbeats 4000000 in
theorem lh_co1 (l : Launch) (hfl : l.flags = flags0) (G : sm_G) (cL : ClassId) (sz ao : Nat) (f : Nat → Int64) {x : Int32} {D : sm_D} {M M1 : sm_M} (h1 : jE_has x D M = some (0, D, M1)) : Met l ⟨"TypedMillLaw", "compile", "(LTypedMill;I[J)I"⟩ (Cond.codeWith ⟨"TypedMillLaw", "compile", "(LTypedMill;I[J)I"⟩ method_4_code 4 (some .int) [(0, 9, 12, 13), (0, 9, 15, 15), (0, 9, 18, 22)] :: smT) (lh_rm 1) (lh_P G cL sz ao f x D M) (lh_Q G cL ao 1 D M1 f (va_A (lh_w G cL ao f D M) sz)) 1 6 (va_A (lh_w G cL ao f D M) sz) := by
  refine va_MetW (cc := method_4_code) (maxL := 4) (ret := some .int) (ws' := smT) (hh := [(0, 9, 12, 13), (0, 9, 15, 15), (0, 9, 18, 22)]) (by decide) rfl ?_
  intro p e s m args below meth c s₁ B hml hv
  obtain ⟨rfl, hsz, hP, hKL, hD0, hG, hxk⟩ := hv
  have hx := B.exec
  have hb := B.bytes
  have hr := B.returns
  have hts0 := atoms_spec (ws := Cond.codeWith ⟨"TypedMillLaw", "compile", "(LTypedMill;I[J)I"⟩ method_4_code 4 (some .int) [(0, 9, 12, 13), (0, 9, 15, 15), (0, 9, 18, 22)] :: smT) B.pre
  have hts : ∀ w ∈ smT, w.before _ s = true := fun w hw => hts0 w (List.mem_cons_of_mem _ hw)
  have hown : s.vm.findClass "TypedMillLaw" = some m.cls := findClass_of_methodNamed B.named
  have hlocks := B.notSynchronized
  obtain ⟨m9, meth9, c9, hn9, hm9, hc9, -, -, htb, -⟩ := Cond.codeWith_spec (hts0 _ List.mem_cons_self)
  cases B.named.symm.trans hn9
  cases B.method.symm.trans hm9
  cases (Stand.of_body B).code.symm.trans hc9
  subst hsz
  have hD := hD0.self (sz := s.heap.size)
  generalize hAe : va_A (lh_w G cL ao f D M) s.heap.size = A at hD hG hxk ⊢
  have hA : ∀ q : Nat, s.heap.size ≤ q → A q := fun q h => by rw [← hAe]; exact Or.inr h
  have hS : va_S A s.heap s.heap [] := va_S.rf
  have hl := lv_entry ([.ref (sm_ad G 60), .int x, .ref ao]) (n := 4) (Nat.le_of_ble_eq_true rfl)
  rw [lg_entry_eq]
  generalize (lg_sl ([.ref (sm_ad G 60), .int x, .ref ao]) ++ List.replicate (4 - (lg_sl ([.ref (sm_ad G 60), .int x, .ref ao])).length) Slot.unset).toArray = ls at hl ⊢
  replace hl : lv_has ls 4 [(0, .ref (sm_ad G 60)), (1, .int x), (2, .ref ao)] := hl
  have hK : va_K G.1 smCl (sm_tys G) s := hKL.sub [0, 1] rfl
  refine lv_aload_n hx hb (show decode method_4_code 0 = .ok (.aload_n 2, 1) by decide +kernel) rfl (lv_at hl 2 rfl) ?_
  refine lv_iconst (v := 0) hx hb (show decode method_4_code 1 = .ok (.iconst 0, 1) by decide +kernel) (by decide) ?_
  refine lv_aload_n hx hb (show decode method_4_code 2 = .ok (.aload_n 0, 1) by decide +kernel) rfl (lv_at hl 0 rfl) ?_
  refine lv_iload_n hx hb (show decode method_4_code 3 = .ok (.iload_n 1, 1) by decide +kernel) rfl (lv_at hl 1 rfl) ?_
  refine W.eq (g2 := F0 m 4 ls (([.int x] : List Value).reverse ++ .ref (sm_ad G (59 + 1)) :: [.int 0, .ref ao])) rfl ?_
  refine lh_throw (own := "TypedMillLaw") (cls := "java/util/NoSuchElementException") (nm := "java/util/NoSuchElementException") (nL := 4) (ix := 19) (maxL := 5) (pre := []) (row := ⟨0, 9, 12, 13⟩) (post := [⟨0, 9, 15, 15⟩, ⟨0, 9, 18, 22⟩]) hx hb hml hown hts hK hP hD hS hA hG hxk (xe_co1 l hfl G _ h1) (sm_mem1 945 (by decide +kernel) (by decide +kernel)) (sm_mem1 942 (by decide +kernel) (by decide +kernel)) (sm_mem1 943 (by decide +kernel) (by decide +kernel)) (sm_mem1 944 (by decide +kernel) (by decide +kernel)) (sm_mem1 103 (by decide +kernel) (by decide +kernel)) rfl ⟨by decide +kernel, by decide +kernel, by decide +kernel⟩ (Nat.le_of_ble_eq_true rfl) (Nat.le_of_ble_eq_true rfl) (Nat.le_of_ble_eq_true rfl) (Nat.le_of_ble_eq_true rfl) hl.1 (Nat.le_of_ble_eq_true rfl) (by decide +kernel) (by rw [lh_tab htb]; rfl) (by simp) (by decide) (by decide) (hts _ (sm_mem1 805 (by decide +kernel) (by decide +kernel))) (hxk.words _ (by decide +kernel)) (fun z H locs hP hD hS => ?_)
  refine W.eq (g2 := F0 m 12 ls [.ref z]) rfl ?_
  refine lv_astore_n hx hb (show decode method_4_code 12 = .ok (.astore_n 3, 1) by decide +kernel) rfl hl (by decide) rfl ?_
  clear hl
  intro ls hl
  refine lv_iconst (v := 1) hx hb (show decode method_4_code 13 = .ok (.iconst 1, 1) by decide +kernel) (by decide) ?_
  exact W.iret hx hb hr (fun t ht hW => ⟨⟨_, (), rfl, rfl, by rw [ht]; exact hP, va_K.moved hW.alike hKL, hD⟩, hS.F ht⟩) hS.2.2 (by decide +kernel)
set_option maxRecDepth 100000 in
set_option maxHeartbeats 4000000 in
theorem lh_co2 (l : Launch) (hfl : l.flags = flags0) (G : sm_G) (cL : ClassId) (sz ao : Nat) (f : Nat → Int64) {x : Int32} {D : sm_D} {M M1 M2 : sm_M} {r1 t : Int32} (h1 : jE_has x D M = some (r1, D, M1)) (hr1 : r1 ≠ 0) (h2 : jA_typeOf x D M1 = some (t, D, M2)) (ht : t ≠ 0) : Met l ⟨"TypedMillLaw", "compile", "(LTypedMill;I[J)I"⟩ (Cond.codeWith ⟨"TypedMillLaw", "compile", "(LTypedMill;I[J)I"⟩ method_4_code 4 (some .int) [(0, 9, 12, 13), (0, 9, 15, 15), (0, 9, 18, 22)] :: smT) (lh_rm 1) (lh_P G cL sz ao f x D M) (lh_Q G cL ao 2 D M2 f (va_A (lh_w G cL ao f D M) sz)) 1 6 (va_A (lh_w G cL ao f D M) sz) := by
  refine va_MetW (cc := method_4_code) (maxL := 4) (ret := some .int) (ws' := smT) (hh := [(0, 9, 12, 13), (0, 9, 15, 15), (0, 9, 18, 22)]) (by decide) rfl ?_
  intro p e s m args below meth c s₁ B hml hv
  obtain ⟨rfl, hsz, hP, hKL, hD0, hG, hxk⟩ := hv
  have hx := B.exec
  have hb := B.bytes
  have hr := B.returns
  have hts0 := atoms_spec (ws := Cond.codeWith ⟨"TypedMillLaw", "compile", "(LTypedMill;I[J)I"⟩ method_4_code 4 (some .int) [(0, 9, 12, 13), (0, 9, 15, 15), (0, 9, 18, 22)] :: smT) B.pre
  have hts : ∀ w ∈ smT, w.before _ s = true := fun w hw => hts0 w (List.mem_cons_of_mem _ hw)
  have hown : s.vm.findClass "TypedMillLaw" = some m.cls := findClass_of_methodNamed B.named
  have hlocks := B.notSynchronized
  obtain ⟨m9, meth9, c9, hn9, hm9, hc9, -, -, htb, -⟩ := Cond.codeWith_spec (hts0 _ List.mem_cons_self)
  cases B.named.symm.trans hn9
  cases B.method.symm.trans hm9
  cases (Stand.of_body B).code.symm.trans hc9
  subst hsz
  have hD := hD0.self (sz := s.heap.size)
  generalize hAe : va_A (lh_w G cL ao f D M) s.heap.size = A at hD hG hxk ⊢
  have hA : ∀ q : Nat, s.heap.size ≤ q → A q := fun q h => by rw [← hAe]; exact Or.inr h
  have hS : va_S A s.heap s.heap [] := va_S.rf
  have hl := lv_entry ([.ref (sm_ad G 60), .int x, .ref ao]) (n := 4) (Nat.le_of_ble_eq_true rfl)
  rw [lg_entry_eq]
  generalize (lg_sl ([.ref (sm_ad G 60), .int x, .ref ao]) ++ List.replicate (4 - (lg_sl ([.ref (sm_ad G 60), .int x, .ref ao])).length) Slot.unset).toArray = ls at hl ⊢
  replace hl : lv_has ls 4 [(0, .ref (sm_ad G 60)), (1, .int x), (2, .ref ao)] := hl
  have hK : va_K G.1 smCl (sm_tys G) s := hKL.sub [0, 1] rfl
  refine lv_aload_n hx hb (show decode method_4_code 0 = .ok (.aload_n 2, 1) by decide +kernel) rfl (lv_at hl 2 rfl) ?_
  refine lv_iconst (v := 0) hx hb (show decode method_4_code 1 = .ok (.iconst 0, 1) by decide +kernel) (by decide) ?_
  refine lv_aload_n hx hb (show decode method_4_code 2 = .ok (.aload_n 0, 1) by decide +kernel) rfl (lv_at hl 0 rfl) ?_
  refine lv_iload_n hx hb (show decode method_4_code 3 = .ok (.iload_n 1, 1) by decide +kernel) rfl (lv_at hl 1 rfl) ?_
  refine W.eq (g2 := F0 m 4 ls (([.int x] : List Value).reverse ++ .ref (sm_ad G (59 + 1)) :: [.int 0, .ref ao])) rfl ?_
  refine lh_throw (own := "TypedMillLaw") (cls := "java/lang/IllegalArgumentException") (nm := "java/lang/IllegalArgumentException") (nL := 4) (ix := 19) (maxL := 5) (pre := [⟨0, 9, 12, 13⟩]) (row := ⟨0, 9, 15, 15⟩) (post := [⟨0, 9, 18, 22⟩]) hx hb hml hown hts hK hP hD hS hA hG hxk (xe_co2 l hfl G _ h1 hr1 h2 ht) (sm_mem1 945 (by decide +kernel) (by decide +kernel)) (sm_mem1 942 (by decide +kernel) (by decide +kernel)) (sm_mem1 943 (by decide +kernel) (by decide +kernel)) (sm_mem1 944 (by decide +kernel) (by decide +kernel)) (sm_mem1 103 (by decide +kernel) (by decide +kernel)) rfl ⟨by decide +kernel, by decide +kernel, by decide +kernel⟩ (Nat.le_of_ble_eq_true rfl) (Nat.le_of_ble_eq_true rfl) (Nat.le_of_ble_eq_true rfl) (Nat.le_of_ble_eq_true rfl) hl.1 (Nat.le_of_ble_eq_true rfl) (by decide +kernel) (by rw [lh_tab htb]; rfl) (List.forall_mem_cons.mpr ⟨⟨by decide, "java/util/NoSuchElementException", hts _ (sm_mem1 805 (by decide +kernel) (by decide +kernel)), hxk.2.1 ("java/lang/IllegalArgumentException", "java/util/NoSuchElementException") (by decide +kernel)⟩, fun _ h => absurd h List.not_mem_nil⟩) (by decide) (by decide) (hts _ (sm_mem1 806 (by decide +kernel) (by decide +kernel))) (hxk.words _ (by decide +kernel)) (fun z H locs hP hD hS => ?_)
  refine W.eq (g2 := F0 m 15 ls [.ref z]) rfl ?_
  refine lv_astore_n hx hb (show decode method_4_code 15 = .ok (.astore_n 3, 1) by decide +kernel) rfl hl (by decide) rfl ?_
  clear hl
  intro ls hl
  refine lv_iconst (v := 2) hx hb (show decode method_4_code 16 = .ok (.iconst 2, 1) by decide +kernel) (by decide) ?_
  exact W.iret hx hb hr (fun t ht hW => ⟨⟨_, (), rfl, rfl, by rw [ht]; exact hP, va_K.moved hW.alike hKL, hD⟩, hS.F ht⟩) hS.2.2 (by decide +kernel)
