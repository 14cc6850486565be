/-! the law's helper of compile, its other roads: by program -/
set_option maxRecDepth 100000 in
set_option maxHeartbeats 4000000 in
theorem lh_co3A (l : Launch) (hfl : l.flags = flags0) (G : sm_G) (cL : ClassId) (sz ao : Nat) (f : Nat → Int64) {x : Int32} {r1 : Int32} {d2 d3 d4 e4 : Nat} {M M1 M2 M3 M4 : sm_M} (h1 : jE_has x [40, 50, d2, d3, d4] M = some (r1, [40, 50, d2, d3, d4], M1)) (hr1 : r1 ≠ 0) (h2 : jA_typeOf x [40, 50, d2, d3, d4] M1 = some (0, [40, 50, d2, d3, d4], M2)) (h3 : jW_translate 50 40 50 d2 d3 d4 x M2 = some (0, [40, 50, d2, d3, e4], M3)) (h4 : jT_forgetFrom (M2 1 7) [40, 50, d2, d3, e4] M3 = some (0, [40, 50, d2, d3, e4], M4)) : Met l ⟨"TypedMillLaw", "compile", "(LTypedMill;I[J)I"⟩ (Cond.codeWith ⟨"TypedMillLaw", "compile", "(LTypedMill;I[J)I"⟩ method_4_code 4 (some .int) [(0, 9, 12, 13), (0, 9, 15, 15), (0, 9, 18, 22)] :: smT) (lh_rm 1) (lh_P G cL sz ao f x [40, 50, d2, d3, d4] M) (lh_Q G cL ao 3 [40, 50, d2, d3, e4] M4 f (va_A (lh_w G cL ao f [40, 50, d2, d3, d4] M) sz)) 1 6 (va_A (lh_w G cL ao f [40, 50, d2, d3, d4] M) sz) := by
  refine va_MetW (cc := method_4_code) (maxL := 4) (ret := some .int) (ws' := smT) (hh := [(0, 9, 12, 13), (0, 9, 15, 15), (0, 9, 18, 22)]) (by decide) rfl ?_
  intro p e s m args below meth c s₁ B hml hv
  obtain ⟨rfl, hsz, hP, hKL, hD0, hG, hxk⟩ := hv
  have hx := B.exec
  have hb := B.bytes
  have hr := B.returns
  have hts0 := atoms_spec (ws := Cond.codeWith ⟨"TypedMillLaw", "compile", "(LTypedMill;I[J)I"⟩ method_4_code 4 (some .int) [(0, 9, 12, 13), (0, 9, 15, 15), (0, 9, 18, 22)] :: smT) B.pre
  have hts : ∀ w ∈ smT, w.before _ s = true := fun w hw => hts0 w (List.mem_cons_of_mem _ hw)
  have hown : s.vm.findClass "TypedMillLaw" = some m.cls := findClass_of_methodNamed B.named
  have hlocks := B.notSynchronized
  obtain ⟨m9, meth9, c9, hn9, hm9, hc9, -, -, htb, -⟩ := Cond.codeWith_spec (hts0 _ List.mem_cons_self)
  cases B.named.symm.trans hn9
  cases B.method.symm.trans hm9
  cases (Stand.of_body B).code.symm.trans hc9
  subst hsz
  have hD := hD0.self (sz := s.heap.size)
  generalize hAe : va_A (lh_w G cL ao f [40, 50, d2, d3, d4] M) s.heap.size = A at hD hG hxk ⊢
  have hA : ∀ q : Nat, s.heap.size ≤ q → A q := fun q h => by rw [← hAe]; exact Or.inr h
  have hS : va_S A s.heap s.heap [] := va_S.rf
  have hl := lv_entry ([.ref (sm_ad G 60), .int x, .ref ao]) (n := 4) (Nat.le_of_ble_eq_true rfl)
  rw [lg_entry_eq]
  generalize (lg_sl ([.ref (sm_ad G 60), .int x, .ref ao]) ++ List.replicate (4 - (lg_sl ([.ref (sm_ad G 60), .int x, .ref ao])).length) Slot.unset).toArray = ls at hl ⊢
  replace hl : lv_has ls 4 [(0, .ref (sm_ad G 60)), (1, .int x), (2, .ref ao)] := hl
  have hK : va_K G.1 smCl (sm_tys G) s := hKL.sub [0, 1] rfl
  refine lv_aload_n hx hb (show decode method_4_code 0 = .ok (.aload_n 2, 1) by decide +kernel) rfl (lv_at hl 2 rfl) ?_
  refine lv_iconst (v := 0) hx hb (show decode method_4_code 1 = .ok (.iconst 0, 1) by decide +kernel) (by decide) ?_
  refine lv_aload_n hx hb (show decode method_4_code 2 = .ok (.aload_n 0, 1) by decide +kernel) rfl (lv_at hl 0 rfl) ?_
  refine lv_iload_n hx hb (show decode method_4_code 3 = .ok (.iload_n 1, 1) by decide +kernel) rfl (lv_at hl 1 rfl) ?_
  refine W.eq (g2 := F0 m 4 ls (([.int x] : List Value).reverse ++ .ref (sm_ad G (59 + 1)) :: [.int 0, .ref ao])) rfl ?_
  refine lh_throw (own := "TypedMillLaw") (cls := "java/lang/UnsupportedOperationException") (nm := "java/lang/UnsupportedOperationException") (nL := 4) (ix := 19) (maxL := 5) (pre := [⟨0, 9, 12, 13⟩, ⟨0, 9, 15, 15⟩]) (row := ⟨0, 9, 18, 22⟩) (post := []) hx hb hml hown hts hK hP hD hS hA hG hxk (xe_co3A l hfl G _ h1 hr1 h2 h3 h4) (sm_mem1 945 (by decide +kernel) (by decide +kernel)) (sm_mem1 942 (by decide +kernel) (by decide +kernel)) (sm_mem1 943 (by decide +kernel) (by decide +kernel)) (sm_mem1 944 (by decide +kernel) (by decide +kernel)) (sm_mem1 103 (by decide +kernel) (by decide +kernel)) rfl ⟨by decide +kernel, by decide +kernel, by decide +kernel⟩ (Nat.le_of_ble_eq_true rfl) (Nat.le_of_ble_eq_true rfl) (Nat.le_of_ble_eq_true rfl) (Nat.le_of_ble_eq_true rfl) hl.1 (Nat.le_of_ble_eq_true rfl) (by decide +kernel) (by rw [lh_tab htb]; rfl) (List.forall_mem_cons.mpr ⟨⟨by decide, "java/util/NoSuchElementException", hts _ (sm_mem1 805 (by decide +kernel) (by decide +kernel)), hxk.2.1 ("java/lang/UnsupportedOperationException", "java/util/NoSuchElementException") (by decide +kernel)⟩, List.forall_mem_cons.mpr ⟨⟨by decide, "java/lang/IllegalArgumentException", hts _ (sm_mem1 806 (by decide +kernel) (by decide +kernel)), hxk.2.1 ("java/lang/UnsupportedOperationException", "java/lang/IllegalArgumentException") (by decide +kernel)⟩, fun _ h => absurd h List.not_mem_nil⟩⟩) (by decide) (by decide) (hts _ (sm_mem1 941 (by decide +kernel) (by decide +kernel))) (hxk.words _ (by decide +kernel)) (fun z H locs hP hD hS => ?_)
  refine W.eq (g2 := F0 m 18 ls [.ref z]) rfl ?_
  refine lv_astore_n hx hb (show decode method_4_code 18 = .ok (.astore_n 3, 1) by decide +kernel) rfl hl (by decide) rfl ?_
  clear hl
  intro ls hl
  refine lv_iconst (v := 3) hx hb (show decode method_4_code 19 = .ok (.iconst 3, 1) by decide +kernel) (by decide) ?_
  exact W.iret hx hb hr (fun t ht hW => ⟨⟨_, (), rfl, rfl, by rw [ht]; exact hP, va_K.moved hW.alike hKL, hD⟩, hS.F ht⟩) hS.2.2 (by decide +kernel)
set_option maxRecDepth 100000 in
set_option maxHeartbeats 4000000 in
theorem lh_co4A (l : Launch) (G : sm_G) (cL : ClassId) (sz ao : Nat) (f : Nat → Int64) {x : Int32} {r1 r vd : Int32} {d2 d3 d4 e3 e4 : Nat} {M M1 M2 M3 M4 M6 : sm_M} (h1 : jE_has x [40, 50, d2, d3, d4] M = some (r1, [40, 50, d2, d3, d4], M1)) (hr1 : r1 ≠ 0) (h2 : jA_typeOf x [40, 50, d2, d3, d4] M1 = some (0, [40, 50, d2, d3, d4], M2)) (h3 : jW_translate 50 40 50 d2 d3 d4 x M2 = some (r, [40, 50, d2, d3, e4], M3)) (hr0 : r ≠ 0) (h4 : jK_verdictOn 50 40 50 d2 d3 e4 M3 = some (vd, [40, 50, d2, e3, e4], M4)) (h5 : jT_forgetFrom (M2 1 7) [40, 50, d2, e3, e4] (sm_up M4 50 14 vd) = some (0, [40, 50, d2, e3, e4], M6)) : Met l ⟨"TypedMillLaw", "compile", "(LTypedMill;I[J)I"⟩ (Cond.codeWith ⟨"TypedMillLaw", "compile", "(LTypedMill;I[J)I"⟩ method_4_code 4 (some .int) [(0, 9, 12, 13), (0, 9, 15, 15), (0, 9, 18, 22)] :: smT) (lh_rm 0) (lh_P G cL sz ao f x [40, 50, d2, d3, d4] M) (lh_Q G cL ao 0 [50, 40, 50, e3, e4] (bgM M6) (vp_updL f 0 (bgM M6 50 6).toInt64) (va_A (lh_w G cL ao f [40, 50, d2, d3, d4] M) sz)) 0 0 (va_A (lh_w G cL ao f [40, 50, d2, d3, d4] M) sz) := by
  refine va_MetW (cc := method_4_code) (maxL := 4) (ret := some .int) (ws' := smT) (hh := [(0, 9, 12, 13), (0, 9, 15, 15), (0, 9, 18, 22)]) (by decide) rfl ?_
  intro p e s m args below meth c s₁ B hml hv
  obtain ⟨rfl, hsz, hP, hKL, hD0, hG, hxk⟩ := hv
  have hx := B.exec
  have hb := B.bytes
  have hr := B.returns
  have hts0 := atoms_spec (ws := Cond.codeWith ⟨"TypedMillLaw", "compile", "(LTypedMill;I[J)I"⟩ method_4_code 4 (some .int) [(0, 9, 12, 13), (0, 9, 15, 15), (0, 9, 18, 22)] :: smT) B.pre
  have hts : ∀ w ∈ smT, w.before _ s = true := fun w hw => hts0 w (List.mem_cons_of_mem _ hw)
  have hown : s.vm.findClass "TypedMillLaw" = some m.cls := findClass_of_methodNamed B.named
  have hlocks := B.notSynchronized
  obtain ⟨m9, meth9, c9, hn9, hm9, hc9, -, -, htb, -⟩ := Cond.codeWith_spec (hts0 _ List.mem_cons_self)
  cases B.named.symm.trans hn9
  cases B.method.symm.trans hm9
  cases (Stand.of_body B).code.symm.trans hc9
  subst hsz
  have hD := hD0.self (sz := s.heap.size)
  generalize hAe : va_A (lh_w G cL ao f [40, 50, d2, d3, d4] M) s.heap.size = A at hD hG hxk ⊢
  have hA : ∀ q : Nat, s.heap.size ≤ q → A q := fun q h => by rw [← hAe]; exact Or.inr h
  have hS : va_S A s.heap s.heap [] := va_S.rf
  have hl := lv_entry ([.ref (sm_ad G 60), .int x, .ref ao]) (n := 4) (Nat.le_of_ble_eq_true rfl)
  rw [lg_entry_eq]
  generalize (lg_sl ([.ref (sm_ad G 60), .int x, .ref ao]) ++ List.replicate (4 - (lg_sl ([.ref (sm_ad G 60), .int x, .ref ao])).length) Slot.unset).toArray = ls at hl ⊢
  replace hl : lv_has ls 4 [(0, .ref (sm_ad G 60)), (1, .int x), (2, .ref ao)] := hl
  have hK : va_K G.1 smCl (sm_tys G) s := hKL.sub [0, 1] rfl
  refine lv_aload_n hx hb (show decode method_4_code 0 = .ok (.aload_n 2, 1) by decide +kernel) rfl (lv_at hl 2 rfl) ?_
  refine lv_iconst (v := 0) hx hb (show decode method_4_code 1 = .ok (.iconst 0, 1) by decide +kernel) (by decide) ?_
  refine lv_aload_n hx hb (show decode method_4_code 2 = .ok (.aload_n 0, 1) by decide +kernel) rfl (lv_at hl 0 rfl) ?_
  refine lv_iload_n hx hb (show decode method_4_code 3 = .ok (.iload_n 1, 1) by decide +kernel) rfl (lv_at hl 1 rfl) ?_
  refine W.eq (g2 := F0 m 4 ls ((([.int x] : List Value).map (sm_cz (sm_ad G))).reverse ++ .ref (sm_ad G (59 + 1)) :: [.int 0, .ref ao])) rfl ?_
  refine wc_V (wr := [(ao, .inl (cL, 1, .inr (.inl f)))]) (d := 130) (ix := 19) (j := 59) hx hb hml hown hts (xe_co4A h1 hr1 h2 h3 hr0 h4 h5) pqCo (sm_mem1 942 (by decide +kernel) (by decide +kernel)) (sm_mem1 943 (by decide +kernel) (by decide +kernel)) (sm_mem1 944 (by decide +kernel) (by decide +kernel)) (T := tF0) (N := 9) rfl rfl hK hP hD hS hA hG (Nat.le_of_ble_eq_true rfl) (Nat.le_of_ble_eq_true rfl) (Nat.le_of_ble_eq_true rfl) (Nat.le_of_ble_eq_true rfl) hl.1 rfl (Nat.le_of_ble_eq_true rfl) (by decide +kernel) (fun H locs hP hD hS => ?_)
  refine W.eq (g2 := F0 m 7 ls [.int (bgM M6 50 6), .int 0, .ref ao]) rfl ?_
  refine lv_i2l hx hb (show decode method_4_code 7 = .ok (.i2l, 1) by decide +kernel) rfl ?_
  refine va_last (tys := lh_tys G cL) (x := (bgM M6 50 6).toInt64) hx hb hKL hP hD hS 60 2 lh_at rfl (vp_in_iff.mpr (by decide)) (show decode method_4_code 8 = .ok (.lastore, 1) by decide +kernel) (fun H locs hP hD hS => ?_)
  rw [lh_set] at hP hD
  refine lv_goto hx hb (show decode method_4_code 9 = .ok (.goto 12, 3) by decide +kernel) (tgt := 21) (by decide) ?_
  refine lv_iconst (v := 0) hx hb (show decode method_4_code 21 = .ok (.iconst 0, 1) by decide +kernel) (by decide) ?_
  exact W.iret hx hb hr (fun t ht hW => ⟨⟨_, (), rfl, rfl, by rw [ht]; exact hP, va_K.moved hW.alike hKL, hD⟩, hS.F ht⟩) hS.2.2 (by decide +kernel)
set_option maxRecDepth 100000 in
set_option maxHeartbeats 4000000 in
theorem lh_co3B (l : Launch) (hfl : l.flags = flags0) (G : sm_G) (cL : ClassId) (sz ao : Nat) (f : Nat → Int64) {x : Int32} {r1 : Int32} {d2 d3 d4 e4 : Nat} {M M1 M2 M3 M4 : sm_M} (h1 : jE_has x [50, 40, d2, d3, d4] M = some (r1, [50, 40, d2, d3, d4], M1)) (hr1 : r1 ≠ 0) (h2 : jA_typeOf x [50, 40, d2, d3, d4] M1 = some (0, [50, 40, d2, d3, d4], M2)) (h3 : jW_translate 40 50 40 d2 d3 d4 x M2 = some (0, [50, 40, d2, d3, e4], M3)) (h4 : jT_forgetFrom (M2 1 7) [50, 40, d2, d3, e4] M3 = some (0, [50, 40, d2, d3, e4], M4)) : Met l ⟨"TypedMillLaw", "compile", "(LTypedMill;I[J)I"⟩ (Cond.codeWith ⟨"TypedMillLaw", "compile", "(LTypedMill;I[J)I"⟩ method_4_code 4 (some .int) [(0, 9, 12, 13), (0, 9, 15, 15), (0, 9, 18, 22)] :: smT) (lh_rm 1) (lh_P G cL sz ao f x [50, 40, d2, d3, d4] M) (lh_Q G cL ao 3 [50, 40, d2, d3, e4] M4 f (va_A (lh_w G cL ao f [50, 40, d2, d3, d4] M) sz)) 1 6 (va_A (lh_w G cL ao f [50, 40, d2, d3, d4] M) sz) := by
  refine va_MetW (cc := method_4_code) (maxL := 4) (ret := some .int) (ws' := smT) (hh := [(0, 9, 12, 13), (0, 9, 15, 15), (0, 9, 18, 22)]) (by decide) rfl ?_
  intro p e s m args below meth c s₁ B hml hv
  obtain ⟨rfl, hsz, hP, hKL, hD0, hG, hxk⟩ := hv
  have hx := B.exec
  have hb := B.bytes
  have hr := B.returns
  have hts0 := atoms_spec (ws := Cond.codeWith ⟨"TypedMillLaw", "compile", "(LTypedMill;I[J)I"⟩ method_4_code 4 (some .int) [(0, 9, 12, 13), (0, 9, 15, 15), (0, 9, 18, 22)] :: smT) B.pre
  have hts : ∀ w ∈ smT, w.before _ s = true := fun w hw => hts0 w (List.mem_cons_of_mem _ hw)
  have hown : s.vm.findClass "TypedMillLaw" = some m.cls := findClass_of_methodNamed B.named
  have hlocks := B.notSynchronized
  obtain ⟨m9, meth9, c9, hn9, hm9, hc9, -, -, htb, -⟩ := Cond.codeWith_spec (hts0 _ List.mem_cons_self)
  cases B.named.symm.trans hn9
  cases B.method.symm.trans hm9
  cases (Stand.of_body B).code.symm.trans hc9
  subst hsz
  have hD := hD0.self (sz := s.heap.size)
  generalize hAe : va_A (lh_w G cL ao f [50, 40, d2, d3, d4] M) s.heap.size = A at hD hG hxk ⊢
  have hA : ∀ q : Nat, s.heap.size ≤ q → A q := fun q h => by rw [← hAe]; exact Or.inr h
  have hS : va_S A s.heap s.heap [] := va_S.rf
  have hl := lv_entry ([.ref (sm_ad G 60), .int x, .ref ao]) (n := 4) (Nat.le_of_ble_eq_true rfl)
  rw [lg_entry_eq]
  generalize (lg_sl ([.ref (sm_ad G 60), .int x, .ref ao]) ++ List.replicate (4 - (lg_sl ([.ref (sm_ad G 60), .int x, .ref ao])).length) Slot.unset).toArray = ls at hl ⊢
  replace hl : lv_has ls 4 [(0, .ref (sm_ad G 60)), (1, .int x), (2, .ref ao)] := hl
  have hK : va_K G.1 smCl (sm_tys G) s := hKL.sub [0, 1] rfl
  refine lv_aload_n hx hb (show decode method_4_code 0 = .ok (.aload_n 2, 1) by decide +kernel) rfl (lv_at hl 2 rfl) ?_
  refine lv_iconst (v := 0) hx hb (show decode method_4_code 1 = .ok (.iconst 0, 1) by decide +kernel) (by decide) ?_
  refine lv_aload_n hx hb (show decode method_4_code 2 = .ok (.aload_n 0, 1) by decide +kernel) rfl (lv_at hl 0 rfl) ?_
  refine lv_iload_n hx hb (show decode method_4_code 3 = .ok (.iload_n 1, 1) by decide +kernel) rfl (lv_at hl 1 rfl) ?_
  refine W.eq (g2 := F0 m 4 ls (([.int x] : List Value).reverse ++ .ref (sm_ad G (59 + 1)) :: [.int 0, .ref ao])) rfl ?_
  refine lh_throw (own := "TypedMillLaw") (cls := "java/lang/UnsupportedOperationException") (nm := "java/lang/UnsupportedOperationException") (nL := 4) (ix := 19) (maxL := 5) (pre := [⟨0, 9, 12, 13⟩, ⟨0, 9, 15, 15⟩]) (row := ⟨0, 9, 18, 22⟩) (post := []) hx hb hml hown hts hK hP hD hS hA hG hxk (xe_co3B l hfl G _ h1 hr1 h2 h3 h4) (sm_mem1 945 (by decide +kernel) (by decide +kernel)) (sm_mem1 942 (by decide +kernel) (by decide +kernel)) (sm_mem1 943 (by decide +kernel) (by decide +kernel)) (sm_mem1 944 (by decide +kernel) (by decide +kernel)) (sm_mem1 103 (by decide +kernel) (by decide +kernel)) rfl ⟨by decide +kernel, by decide +kernel, by decide +kernel⟩ (Nat.le_of_ble_eq_true rfl) (Nat.le_of_ble_eq_true rfl) (Nat.le_of_ble_eq_true rfl) (Nat.le_of_ble_eq_true rfl) hl.1 (Nat.le_of_ble_eq_true rfl) (by decide +kernel) (by rw [lh_tab htb]; rfl) (List.forall_mem_cons.mpr ⟨⟨by decide, "java/util/NoSuchElementException", hts _ (sm_mem1 805 (by decide +kernel) (by decide +kernel)), hxk.2.1 ("java/lang/UnsupportedOperationException", "java/util/NoSuchElementException") (by decide +kernel)⟩, List.forall_mem_cons.mpr ⟨⟨by decide, "java/lang/IllegalArgumentException", hts _ (sm_mem1 806 (by decide +kernel) (by decide +kernel)), hxk.2.1 ("java/lang/UnsupportedOperationException", "java/lang/IllegalArgumentException") (by decide +kernel)⟩, fun _ h => absurd h List.not_mem_nil⟩⟩) (by decide) (by decide) (hts _ (sm_mem1 941 (by decide +kernel) (by decide +kernel))) (hxk.words _ (by decide +kernel)) (fun z H locs hP hD hS => ?_)
  refine W.eq (g2 := F0 m 18 ls [.ref z]) rfl ?_
  refine lv_astore_n hx hb (show decode method_4_code 18 = .ok (.astore_n 3, 1) by decide +kernel) rfl hl (by decide) rfl ?_
  clear hl
  intro ls hl
  refine lv_iconst (v := 3) hx hb (show decode method_4_code 19 = .ok (.iconst 3, 1) by decide +kernel) (by decide) ?_
  exact W.iret hx hb hr (fun t ht hW => ⟨⟨_, (), rfl, rfl, by rw [ht]; exact hP, va_K.moved hW.alike hKL, hD⟩, hS.F ht⟩) hS.2.2 (by decide +kernel)
set_option maxRecDepth 100000 in
set_option maxHeartbeats 4000000 in
theorem lh_co4B (l : Launch) (G : sm_G) (cL : ClassId) (sz ao : Nat) (f : Nat → Int64) {x : Int32} {r1 r vd : Int32} {d2 d3 d4 e3 e4 : Nat} {M M1 M2 M3 M4 M6 : sm_M} (h1 : jE_has x [50, 40, d2, d3, d4] M = some (r1, [50, 40, d2, d3, d4], M1)) (hr1 : r1 ≠ 0) (h2 : jA_typeOf x [50, 40, d2, d3, d4] M1 = some (0, [50, 40, d2, d3, d4], M2)) (h3 : jW_translate 40 50 40 d2 d3 d4 x M2 = some (r, [50, 40, d2, d3, e4], M3)) (hr0 : r ≠ 0) (h4 : jK_verdictOn 40 50 40 d2 d3 e4 M3 = some (vd, [50, 40, d2, e3, e4], M4)) (h5 : jT_forgetFrom (M2 1 7) [50, 40, d2, e3, e4] (sm_up M4 40 14 vd) = some (0, [50, 40, d2, e3, e4], M6)) : Met l ⟨"TypedMillLaw", "compile", "(LTypedMill;I[J)I"⟩ (Cond.codeWith ⟨"TypedMillLaw", "compile", "(LTypedMill;I[J)I"⟩ method_4_code 4 (some .int) [(0, 9, 12, 13), (0, 9, 15, 15), (0, 9, 18, 22)] :: smT) (lh_rm 0) (lh_P G cL sz ao f x [50, 40, d2, d3, d4] M) (lh_Q G cL ao 0 [40, 50, 40, e3, e4] (bgM M6) (vp_updL f 0 (bgM M6 40 6).toInt64) (va_A (lh_w G cL ao f [50, 40, d2, d3, d4] M) sz)) 0 0 (va_A (lh_w G cL ao f [50, 40, d2, d3, d4] M) sz) := by
  refine va_MetW (cc := method_4_code) (maxL := 4) (ret := some .int) (ws' := smT) (hh := [(0, 9, 12, 13), (0, 9, 15, 15), (0, 9, 18, 22)]) (by decide) rfl ?_
  intro p e s m args below meth c s₁ B hml hv
  obtain ⟨rfl, hsz, hP, hKL, hD0, hG, hxk⟩ := hv
  have hx := B.exec
  have hb := B.bytes
  have hr := B.returns
  have hts0 := atoms_spec (ws := Cond.codeWith ⟨"TypedMillLaw", "compile", "(LTypedMill;I[J)I"⟩ method_4_code 4 (some .int) [(0, 9, 12, 13), (0, 9, 15, 15), (0, 9, 18, 22)] :: smT) B.pre
  have hts : ∀ w ∈ smT, w.before _ s = true := fun w hw => hts0 w (List.mem_cons_of_mem _ hw)
  have hown : s.vm.findClass "TypedMillLaw" = some m.cls := findClass_of_methodNamed B.named
  have hlocks := B.notSynchronized
  obtain ⟨m9, meth9, c9, hn9, hm9, hc9, -, -, htb, -⟩ := Cond.codeWith_spec (hts0 _ List.mem_cons_self)
  cases B.named.symm.trans hn9
  cases B.method.symm.trans hm9
  cases (Stand.of_body B).code.symm.trans hc9
  subst hsz
  have hD := hD0.self (sz := s.heap.size)
  generalize hAe : va_A (lh_w G cL ao f [50, 40, d2, d3, d4] M) s.heap.size = A at hD hG hxk ⊢
  have hA : ∀ q : Nat, s.heap.size ≤ q → A q := fun q h => by rw [← hAe]; exact Or.inr h
  have hS : va_S A s.heap s.heap [] := va_S.rf
  have hl := lv_entry ([.ref (sm_ad G 60), .int x, .ref ao]) (n := 4) (Nat.le_of_ble_eq_true rfl)
  rw [lg_entry_eq]
  generalize (lg_sl ([.ref (sm_ad G 60), .int x, .ref ao]) ++ List.replicate (4 - (lg_sl ([.ref (sm_ad G 60), .int x, .ref ao])).length) Slot.unset).toArray = ls at hl ⊢
  replace hl : lv_has ls 4 [(0, .ref (sm_ad G 60)), (1, .int x), (2, .ref ao)] := hl
  have hK : va_K G.1 smCl (sm_tys G) s := hKL.sub [0, 1] rfl
  refine lv_aload_n hx hb (show decode method_4_code 0 = .ok (.aload_n 2, 1) by decide +kernel) rfl (lv_at hl 2 rfl) ?_
  refine lv_iconst (v := 0) hx hb (show decode method_4_code 1 = .ok (.iconst 0, 1) by decide +kernel) (by decide) ?_
  refine lv_aload_n hx hb (show decode method_4_code 2 = .ok (.aload_n 0, 1) by decide +kernel) rfl (lv_at hl 0 rfl) ?_
  refine lv_iload_n hx hb (show decode method_4_code 3 = .ok (.iload_n 1, 1) by decide +kernel) rfl (lv_at hl 1 rfl) ?_
  refine W.eq (g2 := F0 m 4 ls ((([.int x] : List Value).map (sm_cz (sm_ad G))).reverse ++ .ref (sm_ad G (59 + 1)) :: [.int 0, .ref ao])) rfl ?_
  refine wc_V (wr := [(ao, .inl (cL, 1, .inr (.inl f)))]) (d := 130) (ix := 19) (j := 59) hx hb hml hown hts (xe_co4B h1 hr1 h2 h3 hr0 h4 h5) pqCo (sm_mem1 942 (by decide +kernel) (by decide +kernel)) (sm_mem1 943 (by decide +kernel) (by decide +kernel)) (sm_mem1 944 (by decide +kernel) (by decide +kernel)) (T := tF0) (N := 9) rfl rfl hK hP hD hS hA hG (Nat.le_of_ble_eq_true rfl) (Nat.le_of_ble_eq_true rfl) (Nat.le_of_ble_eq_true rfl) (Nat.le_of_ble_eq_true rfl) hl.1 rfl (Nat.le_of_ble_eq_true rfl) (by decide +kernel) (fun H locs hP hD hS => ?_)
  refine W.eq (g2 := F0 m 7 ls [.int (bgM M6 40 6), .int 0, .ref ao]) rfl ?_
  refine lv_i2l hx hb (show decode method_4_code 7 = .ok (.i2l, 1) by decide +kernel) rfl ?_
  refine va_last (tys := lh_tys G cL) (x := (bgM M6 40 6).toInt64) hx hb hKL hP hD hS 60 2 lh_at rfl (vp_in_iff.mpr (by decide)) (show decode method_4_code 8 = .ok (.lastore, 1) by decide +kernel) (fun H locs hP hD hS => ?_)
  rw [lh_set] at hP hD
  refine lv_goto hx hb (show decode method_4_code 9 = .ok (.goto 12, 3) by decide +kernel) (tgt := 21) (by decide) ?_
  refine lv_iconst (v := 0) hx hb (show decode method_4_code 21 = .ok (.iconst 0, 1) by decide +kernel) (by decide) ?_
  exact W.iret hx hb hr (fun t ht hW => ⟨⟨_, (), rfl, rfl, by rw [ht]; exact hP, va_K.moved hW.alike hKL, hD⟩, hS.F ht⟩) hS.2.2 (by decide +kernel)
