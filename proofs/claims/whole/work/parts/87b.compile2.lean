/-! TypedMill.compile, the roads behind typing: by program -/
def fCo : sm_I := (⟨"TypedMill", "compile", "(I)I"⟩, prog_1_method_8_code, 5, (some .int), 1, false, 0, [])
theorem pqCo : sm_PQ fCo := ⟨sm_mem1 945 (by decide +kernel) (by decide +kernel), sm_mem1 103 (by decide +kernel) (by decide +kernel), by decide +kernel, ⟨by decide +kernel, by decide +kernel, by decide +kernel⟩, by decide, Or.inr (Or.inl rfl), by decide +kernel⟩
section
variable {p : Program} {l : Launch} {e : Env} {R : Room} {s : State} {m : MethodId} {args : Array Value} {below : List Frame} {meth : Method} {c : Code} {H H0 : Heap} {locs : List Loc} {cells slots : Nat} {Q : State → Prop}
variable {G : sm_G} {A : Nat → Prop} {D : sm_D} {M : sm_M} {cc : ByteArray} {own : String} {pc : Nat} {ls : Array Slot} {rest : List Value}
/-- a field that names one of the two codes -/
theorem hs_putD {j ci k jd idx nF q : Nat} {fs : List (Nat × Nat)} {C C' : String} {T : u_T} (hx : p.tables.exec = Jvm.exec) (hb : c.code = cc) (hown : s.vm.findClass own = some m.cls) (hts : ∀ w ∈ smT, w.before args s = true) (hK : va_K G.1 smCl (sm_tys G) s) (hP : va_P G.1 smCl (sm_ws shC G D M) H) (hD : va_D A (sm_ws shC G D M)) (hS : va_S A H0 H locs)
    (hj : shC[j]? = some (2, ci, fs)) (hk : fs[k]? = some (2, jd)) (hdl : jd < D.length) (hf : fs.length = nF) (hc : smCl[ci]? = some (C, T, nF)) (hkn : k < nF) (hlk : Cond.fieldLink own idx C (T k).2.1 (T k).2.2.1 ∈ smT) (hT1 : (T k).1 = C) (hfin : (T k).2.2.2 = false) (hty : parseFieldDescriptor (T k).2.2.1 = some (.object C')) (hdg : decode cc pc = .ok (.putfield idx, 3))
    (kk : ∀ (H1 : Heap) (locs1 : List Loc), va_P G.1 smCl (sm_ws shC G (D.set jd (q + 1)) M) H1 → va_D A (sm_ws shC G (D.set jd (q + 1)) M) → va_S A H0 H1 locs1 → W p l e R s m args below meth c H1 locs1 cells slots Q (F0 m (pc + 3) ls rest)) : W p l e R s m args below meth c H locs cells slots Q (F0 m pc ls (.ref (sm_ad G (q + 1)) :: .ref (sm_ad G (j + 1)) :: rest)) := by
  obtain ⟨hu, ⟨ty0, hty0⟩, hnm⟩ := sm_vCls ci C T nF hc
  have hV := sm_vSh (sh := shC) (by decide +kernel) (by decide +kernel)
  obtain ⟨C9, T9, N9, -, -, h9⟩ := hV.1 j ci fs hj
  have huq := ((h9 k 2 jd hk).2.2 rfl).2
  refine va_put (ws := sm_ws shC G D M) (fs := fs.mapIdx (fun k t => sm_fv (sm_ad G) D (M (j + 1)) k t)) (v := .ref (sm_ad G (q + 1))) hx hb hts hu ty0 hty0 hnm hown hK hP hD hS j (sm_ws_at hj) hc k hkn (hts _ hlk) (fun y h9 => by rw [hT1] at h9; exact h9) hfin hty rfl rfl (by simpa [hf] using hkn) hdg (fun H1 locs1 hP1 hD1 hS1 => ?_)
  have ew := sm_ws_setD (G := G) (D := D) (M := M) (q := q + 1) hj hk hdl huq hV.2
  exact kk H1 locs1 (ew ▸ hP1) (ew ▸ hD1) hS1
end
set_option maxRecDepth 100000 in
set_option maxHeartbeats 8000000 in
theorem xe_co3A (l : Launch) (hfl : l.flags = flags0) (G : sm_G) (sz : Nat) {x r1 : Int32} {d2 d3 d4 e4 : Nat} {M M1 M2 M3 M4 : sm_M} (h1 : jE_has x [40, 50, d2, d3, d4] M = some (r1, [40, 50, d2, d3, d4], M1)) (hr1 : r1 ≠ 0) (h2 : jA_typeOf x [40, 50, d2, d3, d4] M1 = some (0, [40, 50, d2, d3, d4], M2)) (h3 : jW_translate 50 40 50 d2 d3 d4 x M2 = some (0, [40, 50, d2, d3, e4], M3)) (h4 : jT_forgetFrom (M2 1 7) [40, 50, d2, d3, e4] M3 = some (0, [40, 50, d2, d3, e4], M4)) : xt_Met l ⟨"TypedMill", "compile", "(I)I"⟩ (Cond.code ⟨"TypedMill", "compile", "(I)I"⟩ prog_1_method_8_code 5 (some .int) :: smT) xe_rm (xe_P G sz x [40, 50, d2, d3, d4] M) (xt_Q "java/lang/UnsupportedOperationException" (xe_B G [40, 50, d2, d3, e4] M4 (va_A (sm_ws shC G [40, 50, d2, d3, d4] M) sz)) (va_A (sm_ws shC G [40, 50, d2, d3, d4] M) sz)) 1 6 (va_A (sm_ws shC G [40, 50, d2, d3, d4] M) sz) := by
  refine xt_ofW (cc := prog_1_method_8_code) (maxL := 5) (ret := some .int) (ws' := smT) (by decide) rfl ?_
  intro p e s m args below meth c s₁ B hml hv
  obtain ⟨rfl, hsz, hP, hK, hD0, hG, hxk⟩ := hv
  have hx := B.exec
  have hb := B.bytes
  have hr := B.returns
  have hts0 := atoms_spec (ws := Cond.code ⟨"TypedMill", "compile", "(I)I"⟩ prog_1_method_8_code 5 (some .int) :: smT) B.pre
  have hts : ∀ w ∈ smT, w.before _ s = true := fun w hw => hts0 w (List.mem_cons_of_mem _ hw)
  have hown : s.vm.findClass "TypedMill" = some m.cls := findClass_of_methodNamed B.named
  have hlocks := B.notSynchronized
  have htab : c.exceptionTable.toList = [] := by simpa using B.noHandlers (hts0 _ List.mem_cons_self)
  subst hsz
  have hD := hD0.self (sz := s.heap.size)
  generalize hAe : va_A (sm_ws shC G [40, 50, d2, d3, d4] M) s.heap.size = A at hD hG hxk ⊢
  have hA : ∀ q : Nat, s.heap.size ≤ q → A q := fun q h => by rw [← hAe]; exact Or.inr h
  have hS : va_S A s.heap s.heap [] := va_S.rf
  have hl := lv_entry ([.ref (sm_ad G 60), .int x]) (n := 5) (Nat.le_of_ble_eq_true rfl)
  rw [lg_entry_eq]
  generalize (lg_sl ([.ref (sm_ad G 60), .int x]) ++ List.replicate (5 - (lg_sl ([.ref (sm_ad G 60), .int x])).length) Slot.unset).toArray = ls at hl ⊢
  replace hl : lv_has ls 5 [(0, .ref (sm_ad G 60)), (1, .int x)] := hl
  refine lv_aload_n hx hb (show decode prog_1_method_8_code 0 = .ok (.aload_n 0, 1) by decide +kernel) rfl (lv_at hl 0 rfl) ?_
  refine hs_get (j := 59) (k := 1) (a := 1) (b := 9) (C := "TypedMill") (T := tF0) (nF := 9) hx hb hown hts hK hP rfl rfl rfl (by decide) (sm_mem1 460 (by decide +kernel) (by decide +kernel)) rfl (show decode prog_1_method_8_code 1 = .ok (.getfield 19, 3) by decide +kernel) ?_
  refine lv_iload_n hx hb (show decode prog_1_method_8_code 4 = .ok (.iload_n 1, 1) by decide +kernel) rfl (lv_at hl 1 rfl) ?_
  refine W.eq (g2 := F0 m 5 ls ((([.int x] : List Value).map (sm_cz (sm_ad G))).reverse ++ .ref (sm_ad G (8 + 1)) :: [])) rfl ?_
  refine wc_V (wr := []) (d := 0) (ix := 100) (j := 8) hx hb hml hown hts (m135 h1) pq135 (sm_mem1 538 (by decide +kernel) (by decide +kernel)) (sm_mem1 528 (by decide +kernel) (by decide +kernel)) (sm_mem1 529 (by decide +kernel) (by decide +kernel)) (T := tF2) (N := 7) rfl rfl hK (by rw [List.append_nil]; exact hP) (by rw [List.append_nil]; exact hD) hS hA hG (Nat.le_of_ble_eq_true rfl) (Nat.le_of_ble_eq_true rfl) (Nat.le_of_ble_eq_true rfl) (Nat.le_of_ble_eq_true rfl) hl.1 rfl (Nat.le_of_ble_eq_true rfl) (by decide +kernel) (fun H locs hP hD hS => ?_)
  rw [List.append_nil] at hP hD
  replace hP : va_P G.1 smCl (sm_ws shC G [40, 50, d2, d3, d4] M1) _ := hP
  replace hD : va_D A (sm_ws shC G [40, 50, d2, d3, d4] M1) := hD
  refine W.eq (g2 := F0 m 8 ls [.int r1]) rfl ?_
  refine lv_if_ne hx hb (show decode prog_1_method_8_code 8 = .ok (.ifCond .ne 11, 3) by decide +kernel) (tgt := 19) (by decide) (fun _ => ?_) (fun h => absurd h (hr1))
  refine W.eq (g2 := F0 m 19 ls []) rfl ?_
  refine lv_aload_n hx hb (show decode prog_1_method_8_code 19 = .ok (.aload_n 0, 1) by decide +kernel) rfl (lv_at hl 0 rfl) ?_
  refine lv_iload_n hx hb (show decode prog_1_method_8_code 20 = .ok (.iload_n 1, 1) by decide +kernel) rfl (lv_at hl 1 rfl) ?_
  refine W.eq (g2 := F0 m 21 ls ((([.int x] : List Value).map (sm_cz (sm_ad G))).reverse ++ .ref (sm_ad G (59 + 1)) :: [])) rfl ?_
  refine wc_V (wr := []) (d := 26) (ix := 101) (j := 59) hx hb hml hown hts (m14 h2) pq14 (sm_mem1 539 (by decide +kernel) (by decide +kernel)) (sm_mem1 541 (by decide +kernel) (by decide +kernel)) (sm_mem1 3 (by decide +kernel) (by decide +kernel)) (T := tF0) (N := 9) rfl rfl hK (by rw [List.append_nil]; exact hP) (by rw [List.append_nil]; exact hD) hS hA hG (Nat.le_of_ble_eq_true rfl) (Nat.le_of_ble_eq_true rfl) (Nat.le_of_ble_eq_true rfl) (Nat.le_of_ble_eq_true rfl) hl.1 rfl (Nat.le_of_ble_eq_true rfl) (by decide +kernel) (fun H locs hP hD hS => ?_)
  rw [List.append_nil] at hP hD
  replace hP : va_P G.1 smCl (sm_ws shC G [40, 50, d2, d3, d4] M2) _ := hP
  replace hD : va_D A (sm_ws shC G [40, 50, d2, d3, d4] M2) := hD
  refine W.eq (g2 := F0 m 24 ls [.int 0]) rfl ?_
  refine lv_if_eq hx hb (show decode prog_1_method_8_code 24 = .ok (.ifCond .eq 11, 3) by decide +kernel) (tgt := 35) (by decide) (fun _ => ?_) (fun h => absurd h (not_not_intro rfl))
  refine W.eq (g2 := F0 m 35 ls []) rfl ?_
  refine lv_aload_n hx hb (show decode prog_1_method_8_code 35 = .ok (.aload_n 0, 1) by decide +kernel) rfl (lv_at hl 0 rfl) ?_
  refine hs_get (j := 59) (k := 0) (a := 1) (b := 1) (C := "TypedMill") (T := tF0) (nF := 9) hx hb hown hts hK hP rfl rfl rfl (by decide) (sm_mem1 459 (by decide +kernel) (by decide +kernel)) rfl (show decode prog_1_method_8_code 36 = .ok (.getfield 10, 3) by decide +kernel) ?_
  refine hs_get (j := 0) (k := 7) (a := 0) (b := 0) (C := "TypedMill$Types") (T := tF1) (nF := 8) hx hb hown hts hK hP rfl rfl rfl (by decide) (sm_mem1 167 (by decide +kernel) (by decide +kernel)) rfl (show decode prog_1_method_8_code 39 = .ok (.getfield 124, 3) by decide +kernel) ?_
  refine W.eq (g2 := F0 m 42 ls [.int (M2 1 7)]) rfl ?_
  refine lv_istore_n hx hb (show decode prog_1_method_8_code 42 = .ok (.istore_n 2, 1) by decide +kernel) rfl hl (by decide) rfl ?_
  clear hl
  intro ls hl
  replace hl : lv_has ls 5 [(2, .int (M2 1 7)), (0, .ref (sm_ad G 60)), (1, .int x)] := hl
  refine W.eq (g2 := F0 m 43 ls []) rfl ?_
  refine lv_aload_n hx hb (show decode prog_1_method_8_code 43 = .ok (.aload_n 0, 1) by decide +kernel) rfl (lv_at hl 1 rfl) ?_
  refine hs_get (j := 59) (k := 4) (a := 1) (b := 24) (C := "TypedMill") (T := tF0) (nF := 9) hx hb hown hts hK hP rfl rfl rfl (by decide) (sm_mem1 463 (by decide +kernel) (by decide +kernel)) rfl (show decode prog_1_method_8_code 44 = .ok (.getfield 44, 3) by decide +kernel) ?_
  refine lv_iload_n hx hb (show decode prog_1_method_8_code 47 = .ok (.iload_n 1, 1) by decide +kernel) rfl (lv_at hl 2 rfl) ?_
  refine lv_aload_n hx hb (show decode prog_1_method_8_code 48 = .ok (.aload_n 0, 1) by decide +kernel) rfl (lv_at hl 1 rfl) ?_
  refine hs_get (j := 59) (k := 8) (a := 2) (b := 1) (C := "TypedMill") (T := tF0) (nF := 9) hx hb hown hts hK hP rfl rfl rfl (by decide) (sm_mem1 467 (by decide +kernel) (by decide +kernel)) rfl (show decode prog_1_method_8_code 49 = .ok (.getfield 71, 3) by decide +kernel) ?_
  refine W.eq (g2 := F0 m 52 ls ((([.int x, .ref 50] : List Value).map (sm_cz (sm_ad G))).reverse ++ .ref (sm_ad G (23 + 1)) :: [])) rfl ?_
  refine wc_V (wr := []) (d := 34) (ix := 127) (j := 23) hx hb hml hown hts (m116 (by decide) h3) pq116 (sm_mem1 946 (by decide +kernel) (by decide +kernel)) (sm_mem1 947 (by decide +kernel) (by decide +kernel)) (sm_mem1 948 (by decide +kernel) (by decide +kernel)) (T := tF5) (N := 11) rfl rfl hK (by rw [List.append_nil]; exact hP) (by rw [List.append_nil]; exact hD) hS hA hG (Nat.le_of_ble_eq_true rfl) (Nat.le_of_ble_eq_true rfl) (Nat.le_of_ble_eq_true rfl) (Nat.le_of_ble_eq_true rfl) hl.1 rfl (Nat.le_of_ble_eq_true rfl) (by decide +kernel) (fun H locs hP hD hS => ?_)
  rw [List.append_nil] at hP hD
  replace hP : va_P G.1 smCl (sm_ws shC G [40, 50, d2, d3, e4] M3) _ := hP
  replace hD : va_D A (sm_ws shC G [40, 50, d2, d3, e4] M3) := hD
  refine W.eq (g2 := F0 m 55 ls [.int 0]) rfl ?_
  refine lv_istore_n hx hb (show decode prog_1_method_8_code 55 = .ok (.istore_n 3, 1) by decide +kernel) rfl hl (by decide) rfl ?_
  clear hl
  intro ls hl
  replace hl : lv_has ls 5 [(3, .int 0), (2, .int (M2 1 7)), (0, .ref (sm_ad G 60)), (1, .int x)] := hl
  refine W.eq (g2 := F0 m 56 ls []) rfl ?_
  refine lv_iload_n hx hb (show decode prog_1_method_8_code 56 = .ok (.iload_n 3, 1) by decide +kernel) rfl (lv_at hl 0 rfl) ?_
  refine W.eq (g2 := F0 m 57 ls [.int 0]) rfl ?_
  refine lv_if_eq hx hb (show decode prog_1_method_8_code 57 = .ok (.ifCond .eq 21, 3) by decide +kernel) (tgt := 78) (by decide) (fun _ => ?_) (fun h => absurd h (not_not_intro rfl))
  refine W.eq (g2 := F0 m 78 ls []) rfl ?_
  refine lv_aload_n hx hb (show decode prog_1_method_8_code 78 = .ok (.aload_n 0, 1) by decide +kernel) rfl (lv_at hl 2 rfl) ?_
  refine hs_get (j := 59) (k := 0) (a := 1) (b := 1) (C := "TypedMill") (T := tF0) (nF := 9) hx hb hown hts hK hP rfl rfl rfl (by decide) (sm_mem1 459 (by decide +kernel) (by decide +kernel)) rfl (show decode prog_1_method_8_code 79 = .ok (.getfield 10, 3) by decide +kernel) ?_
  refine lv_iload_n hx hb (show decode prog_1_method_8_code 82 = .ok (.iload_n 2, 1) by decide +kernel) rfl (lv_at hl 1 rfl) ?_
  refine W.eq (g2 := F0 m 83 ls ((([.int (M2 1 7)] : List Value).map (sm_cz (sm_ad G))).reverse ++ .ref (sm_ad G (0 + 1)) :: [])) rfl ?_
  refine wc_V (wr := []) (d := 1) (ix := 138) (j := 0) hx hb hml hown hts (m160 h4) pq160 (sm_mem1 585 (by decide +kernel) (by decide +kernel)) (sm_mem1 586 (by decide +kernel) (by decide +kernel)) (sm_mem1 587 (by decide +kernel) (by decide +kernel)) (T := tF1) (N := 8) rfl rfl hK (by rw [List.append_nil]; exact hP) (by rw [List.append_nil]; exact hD) hS hA hG (Nat.le_of_ble_eq_true rfl) (Nat.le_of_ble_eq_true rfl) (Nat.le_of_ble_eq_true rfl) (Nat.le_of_ble_eq_true rfl) hl.1 rfl (Nat.le_of_ble_eq_true rfl) (by decide +kernel) (fun H locs hP hD hS => ?_)
  rw [List.append_nil] at hP hD
  replace hP : va_P G.1 smCl (sm_ws shC G [40, 50, d2, d3, e4] M4) _ := hP
  replace hD : va_D A (sm_ws shC G [40, 50, d2, d3, e4] M4) := hD
  refine W.eq (g2 := F0 m 86 ls []) rfl ?_
  refine lv_iload_n hx hb (show decode prog_1_method_8_code 86 = .ok (.iload_n 3, 1) by decide +kernel) rfl (lv_at hl 0 rfl) ?_
  refine W.eq (g2 := F0 m 87 ls [.int 0]) rfl ?_
  refine lv_if_ne hx hb (show decode prog_1_method_8_code 87 = .ok (.ifCond .ne 11, 3) by decide +kernel) (tgt := 98) (by decide) (fun h => absurd h (not_not_intro rfl)) (fun _ => ?_)
  refine W.eq (g2 := F0 m 90 ls []) rfl ?_
  exact xt_throw (own := "TypedMill") (cls := "java/lang/UnsupportedOperationException") (names := ["java/lang/RuntimeException", "java/lang/Exception"]) (ixN := 142) (ic := 144) (nL := 5) hfl hx hb hml hl.1 hown hts hlocks htab hxk hS (by decide +kernel) (by decide +kernel) (sm_mem1 996 (by decide +kernel) (by decide +kernel)) (sm_mem1 997 (by decide +kernel) (by decide +kernel)) (sm_mem1 121 (by decide +kernel) (by decide +kernel)) xa_UO (by decide +kernel) (by decide +kernel) (by decide +kernel) (by decide +kernel) (Nat.le_of_ble_eq_true rfl) (Nat.le_of_ble_eq_true rfl) (Nat.le_of_ble_eq_true rfl) (Nat.le_of_ble_eq_true rfl) (Nat.le_of_ble_eq_true rfl) (fun y t ce h1 h2 h3 h4 h5 h6 => ⟨⟨ce, h1, h2, h3⟩, ⟨fun k q hq => (hP k q hq).kept (h4 q.1 ((hP k q hq).lt)), va_K.moved h6.alike hK, hD⟩, Nat.le_trans hS.1 h5, fun q g1 g2 => by rw [h4 q (Nat.lt_of_lt_of_le g1 hS.1)]; exact hS.2.1 q g1 g2⟩) hS.2.2
set_option maxRecDepth 100000 in
set_option maxHeartbeats 8000000 in
theorem xe_co4A {x r1 r vd : Int32} {d2 d3 d4 e3 e4 : Nat} {M M1 M2 M3 M4 M6 : sm_M} (h1 : jE_has x [40, 50, d2, d3, d4] M = some (r1, [40, 50, d2, d3, d4], M1)) (hr1 : r1 ≠ 0) (h2 : jA_typeOf x [40, 50, d2, d3, d4] M1 = some (0, [40, 50, d2, d3, d4], M2)) (h3 : jW_translate 50 40 50 d2 d3 d4 x M2 = some (r, [40, 50, d2, d3, e4], M3)) (hr : r ≠ 0) (h4 : jK_verdictOn 50 40 50 d2 d3 e4 M3 = some (vd, [40, 50, d2, e3, e4], M4)) (h5 : jT_forgetFrom (M2 1 7) [40, 50, d2, e3, e4] (sm_up M4 50 14 vd) = some (0, [40, 50, d2, e3, e4], M6)) : sm_MJ smT smCl smSa shC fCo 130 [.ref 60, .int x] [40, 50, d2, d3, d4] M (bgM M6 50 6, [50, 40, 50, e3, e4], bgM M6) := by
  intro l G sz
  refine Met.ofW (cc := prog_1_method_8_code) (maxL := 5) (ret := some .int) (ws' := smT) (by decide) rfl ?_
  intro p e s m args below meth c s₁ B hml hv
  obtain ⟨rfl, hsz, hP, hK, hD0, hG⟩ := hv
  have hx := B.exec
  have hb := B.bytes
  have hrt := B.returns
  have hts0 := atoms_spec (ws := Cond.code ⟨"TypedMill", "compile", "(I)I"⟩ prog_1_method_8_code 5 (some .int) :: smT) B.pre
  have hts : ∀ w ∈ smT, w.before _ s = true := fun w hw => hts0 w (List.mem_cons_of_mem _ hw)
  have hown : s.vm.findClass "TypedMill" = some m.cls := findClass_of_methodNamed B.named
  have hlocks := B.notSynchronized
  have htab : c.exceptionTable.toList = [] := by simpa using B.noHandlers (hts0 _ List.mem_cons_self)
  subst hsz
  have hD := hD0.self (sz := s.heap.size)
  generalize hAe : va_A (sm_ws shC G [40, 50, d2, d3, d4] M) s.heap.size = A at hD hG ⊢
  have hA : ∀ q : Nat, s.heap.size ≤ q → A q := fun q h => by rw [← hAe]; exact Or.inr h
  have hS : va_S A s.heap s.heap [] := va_S.rf
  have hl := lv_entry (([.ref 60, .int x] : List Value).map (sm_cz (sm_ad G))) (n := 5) (Nat.le_of_ble_eq_true rfl)
  rw [lg_entry_eq]
  generalize (lg_sl (([.ref 60, .int x] : List Value).map (sm_cz (sm_ad G))) ++ List.replicate (5 - (lg_sl (([.ref 60, .int x] : List Value).map (sm_cz (sm_ad G)))).length) Slot.unset).toArray = ls at hl ⊢
  replace hl : lv_has ls 5 [(0, .ref (sm_ad G 60)), (1, .int x)] := hl
  refine lv_aload_n hx hb (show decode prog_1_method_8_code 0 = .ok (.aload_n 0, 1) by decide +kernel) rfl (lv_at hl 0 rfl) ?_
  refine hs_get (j := 59) (k := 1) (a := 1) (b := 9) (C := "TypedMill") (T := tF0) (nF := 9) hx hb hown hts hK hP rfl rfl rfl (by decide) (sm_mem1 460 (by decide +kernel) (by decide +kernel)) rfl (show decode prog_1_method_8_code 1 = .ok (.getfield 19, 3) by decide +kernel) ?_
  refine lv_iload_n hx hb (show decode prog_1_method_8_code 4 = .ok (.iload_n 1, 1) by decide +kernel) rfl (lv_at hl 1 rfl) ?_
  refine W.eq (g2 := F0 m 5 ls ((([.int x] : List Value).map (sm_cz (sm_ad G))).reverse ++ .ref (sm_ad G (8 + 1)) :: [])) rfl ?_
  refine wc_V (wr := []) (d := 0) (ix := 100) (j := 8) hx hb hml hown hts (m135 h1) pq135 (sm_mem1 538 (by decide +kernel) (by decide +kernel)) (sm_mem1 528 (by decide +kernel) (by decide +kernel)) (sm_mem1 529 (by decide +kernel) (by decide +kernel)) (T := tF2) (N := 7) rfl rfl hK (by rw [List.append_nil]; exact hP) (by rw [List.append_nil]; exact hD) hS hA hG (Nat.le_of_ble_eq_true rfl) (Nat.le_of_ble_eq_true rfl) (Nat.le_of_ble_eq_true rfl) (Nat.le_of_ble_eq_true rfl) hl.1 rfl (Nat.le_of_ble_eq_true rfl) (by decide +kernel) (fun H locs hP hD hS => ?_)
  rw [List.append_nil] at hP hD
  replace hP : va_P G.1 smCl (sm_ws shC G [40, 50, d2, d3, d4] M1) _ := hP
  replace hD : va_D A (sm_ws shC G [40, 50, d2, d3, d4] M1) := hD
  refine W.eq (g2 := F0 m 8 ls [.int r1]) rfl ?_
  refine lv_if_ne hx hb (show decode prog_1_method_8_code 8 = .ok (.ifCond .ne 11, 3) by decide +kernel) (tgt := 19) (by decide) (fun _ => ?_) (fun h => absurd h (hr1))
  refine W.eq (g2 := F0 m 19 ls []) rfl ?_
  refine lv_aload_n hx hb (show decode prog_1_method_8_code 19 = .ok (.aload_n 0, 1) by decide +kernel) rfl (lv_at hl 0 rfl) ?_
  refine lv_iload_n hx hb (show decode prog_1_method_8_code 20 = .ok (.iload_n 1, 1) by decide +kernel) rfl (lv_at hl 1 rfl) ?_
  refine W.eq (g2 := F0 m 21 ls ((([.int x] : List Value).map (sm_cz (sm_ad G))).reverse ++ .ref (sm_ad G (59 + 1)) :: [])) rfl ?_
  refine wc_V (wr := []) (d := 26) (ix := 101) (j := 59) hx hb hml hown hts (m14 h2) pq14 (sm_mem1 539 (by decide +kernel) (by decide +kernel)) (sm_mem1 541 (by decide +kernel) (by decide +kernel)) (sm_mem1 3 (by decide +kernel) (by decide +kernel)) (T := tF0) (N := 9) rfl rfl hK (by rw [List.append_nil]; exact hP) (by rw [List.append_nil]; exact hD) hS hA hG (Nat.le_of_ble_eq_true rfl) (Nat.le_of_ble_eq_true rfl) (Nat.le_of_ble_eq_true rfl) (Nat.le_of_ble_eq_true rfl) hl.1 rfl (Nat.le_of_ble_eq_true rfl) (by decide +kernel) (fun H locs hP hD hS => ?_)
  rw [List.append_nil] at hP hD
  replace hP : va_P G.1 smCl (sm_ws shC G [40, 50, d2, d3, d4] M2) _ := hP
  replace hD : va_D A (sm_ws shC G [40, 50, d2, d3, d4] M2) := hD
  refine W.eq (g2 := F0 m 24 ls [.int 0]) rfl ?_
  refine lv_if_eq hx hb (show decode prog_1_method_8_code 24 = .ok (.ifCond .eq 11, 3) by decide +kernel) (tgt := 35) (by decide) (fun _ => ?_) (fun h => absurd h (not_not_intro rfl))
  refine W.eq (g2 := F0 m 35 ls []) rfl ?_
  refine lv_aload_n hx hb (show decode prog_1_method_8_code 35 = .ok (.aload_n 0, 1) by decide +kernel) rfl (lv_at hl 0 rfl) ?_
  refine hs_get (j := 59) (k := 0) (a := 1) (b := 1) (C := "TypedMill") (T := tF0) (nF := 9) hx hb hown hts hK hP rfl rfl rfl (by decide) (sm_mem1 459 (by decide +kernel) (by decide +kernel)) rfl (show decode prog_1_method_8_code 36 = .ok (.getfield 10, 3) by decide +kernel) ?_
  refine hs_get (j := 0) (k := 7) (a := 0) (b := 0) (C := "TypedMill$Types") (T := tF1) (nF := 8) hx hb hown hts hK hP rfl rfl rfl (by decide) (sm_mem1 167 (by decide +kernel) (by decide +kernel)) rfl (show decode prog_1_method_8_code 39 = .ok (.getfield 124, 3) by decide +kernel) ?_
  refine W.eq (g2 := F0 m 42 ls [.int (M2 1 7)]) rfl ?_
  refine lv_istore_n hx hb (show decode prog_1_method_8_code 42 = .ok (.istore_n 2, 1) by decide +kernel) rfl hl (by decide) rfl ?_
  clear hl
  intro ls hl
  replace hl : lv_has ls 5 [(2, .int (M2 1 7)), (0, .ref (sm_ad G 60)), (1, .int x)] := hl
  refine W.eq (g2 := F0 m 43 ls []) rfl ?_
  refine lv_aload_n hx hb (show decode prog_1_method_8_code 43 = .ok (.aload_n 0, 1) by decide +kernel) rfl (lv_at hl 1 rfl) ?_
  refine hs_get (j := 59) (k := 4) (a := 1) (b := 24) (C := "TypedMill") (T := tF0) (nF := 9) hx hb hown hts hK hP rfl rfl rfl (by decide) (sm_mem1 463 (by decide +kernel) (by decide +kernel)) rfl (show decode prog_1_method_8_code 44 = .ok (.getfield 44, 3) by decide +kernel) ?_
  refine lv_iload_n hx hb (show decode prog_1_method_8_code 47 = .ok (.iload_n 1, 1) by decide +kernel) rfl (lv_at hl 2 rfl) ?_
  refine lv_aload_n hx hb (show decode prog_1_method_8_code 48 = .ok (.aload_n 0, 1) by decide +kernel) rfl (lv_at hl 1 rfl) ?_
  refine hs_get (j := 59) (k := 8) (a := 2) (b := 1) (C := "TypedMill") (T := tF0) (nF := 9) hx hb hown hts hK hP rfl rfl rfl (by decide) (sm_mem1 467 (by decide +kernel) (by decide +kernel)) rfl (show decode prog_1_method_8_code 49 = .ok (.getfield 71, 3) by decide +kernel) ?_
  refine W.eq (g2 := F0 m 52 ls ((([.int x, .ref 50] : List Value).map (sm_cz (sm_ad G))).reverse ++ .ref (sm_ad G (23 + 1)) :: [])) rfl ?_
  refine wc_V (wr := []) (d := 34) (ix := 127) (j := 23) hx hb hml hown hts (m116 (by decide) h3) pq116 (sm_mem1 946 (by decide +kernel) (by decide +kernel)) (sm_mem1 947 (by decide +kernel) (by decide +kernel)) (sm_mem1 948 (by decide +kernel) (by decide +kernel)) (T := tF5) (N := 11) rfl rfl hK (by rw [List.append_nil]; exact hP) (by rw [List.append_nil]; exact hD) hS hA hG (Nat.le_of_ble_eq_true rfl) (Nat.le_of_ble_eq_true rfl) (Nat.le_of_ble_eq_true rfl) (Nat.le_of_ble_eq_true rfl) hl.1 rfl (Nat.le_of_ble_eq_true rfl) (by decide +kernel) (fun H locs hP hD hS => ?_)
  rw [List.append_nil] at hP hD
  replace hP : va_P G.1 smCl (sm_ws shC G [40, 50, d2, d3, e4] M3) _ := hP
  replace hD : va_D A (sm_ws shC G [40, 50, d2, d3, e4] M3) := hD
  refine W.eq (g2 := F0 m 55 ls [.int r]) rfl ?_
  refine lv_istore_n hx hb (show decode prog_1_method_8_code 55 = .ok (.istore_n 3, 1) by decide +kernel) rfl hl (by decide) rfl ?_
  clear hl
  intro ls hl
  replace hl : lv_has ls 5 [(3, .int r), (2, .int (M2 1 7)), (0, .ref (sm_ad G 60)), (1, .int x)] := hl
  refine W.eq (g2 := F0 m 56 ls []) rfl ?_
  refine lv_iload_n hx hb (show decode prog_1_method_8_code 56 = .ok (.iload_n 3, 1) by decide +kernel) rfl (lv_at hl 0 rfl) ?_
  refine W.eq (g2 := F0 m 57 ls [.int r]) rfl ?_
  refine lv_if_eq hx hb (show decode prog_1_method_8_code 57 = .ok (.ifCond .eq 21, 3) by decide +kernel) (tgt := 78) (by decide) (fun h => absurd h (hr)) (fun _ => ?_)
  refine W.eq (g2 := F0 m 60 ls []) rfl ?_
  refine lv_aload_n hx hb (show decode prog_1_method_8_code 60 = .ok (.aload_n 0, 1) by decide +kernel) rfl (lv_at hl 2 rfl) ?_
  refine hs_get (j := 59) (k := 8) (a := 2) (b := 1) (C := "TypedMill") (T := tF0) (nF := 9) hx hb hown hts hK hP rfl rfl rfl (by decide) (sm_mem1 467 (by decide +kernel) (by decide +kernel)) rfl (show decode prog_1_method_8_code 61 = .ok (.getfield 71, 3) by decide +kernel) ?_
  refine lv_aload_n hx hb (show decode prog_1_method_8_code 64 = .ok (.aload_n 0, 1) by decide +kernel) rfl (lv_at hl 2 rfl) ?_
  refine hs_get (j := 59) (k := 5) (a := 1) (b := 31) (C := "TypedMill") (T := tF0) (nF := 9) hx hb hown hts hK hP rfl rfl rfl (by decide) (sm_mem1 464 (by decide +kernel) (by decide +kernel)) rfl (show decode prog_1_method_8_code 65 = .ok (.getfield 53, 3) by decide +kernel) ?_
  refine lv_aload_n hx hb (show decode prog_1_method_8_code 68 = .ok (.aload_n 0, 1) by decide +kernel) rfl (lv_at hl 2 rfl) ?_
  refine hs_get (j := 59) (k := 8) (a := 2) (b := 1) (C := "TypedMill") (T := tF0) (nF := 9) hx hb hown hts hK hP rfl rfl rfl (by decide) (sm_mem1 467 (by decide +kernel) (by decide +kernel)) rfl (show decode prog_1_method_8_code 69 = .ok (.getfield 71, 3) by decide +kernel) ?_
  refine W.eq (g2 := F0 m 72 ls ((([.ref 50] : List Value).map (sm_cz (sm_ad G))).reverse ++ .ref (sm_ad G (30 + 1)) :: [.ref (sm_ad G 50)])) rfl ?_
  refine wc_V (wr := []) (d := 6) (ix := 131) (j := 30) hx hb hml hown hts (m89 (by decide) h4) pq89 (sm_mem1 645 (by decide +kernel) (by decide +kernel)) (sm_mem1 646 (by decide +kernel) (by decide +kernel)) (sm_mem1 647 (by decide +kernel) (by decide +kernel)) (T := tF6) (N := 3) rfl rfl hK (by rw [List.append_nil]; exact hP) (by rw [List.append_nil]; exact hD) hS hA hG (Nat.le_of_ble_eq_true rfl) (Nat.le_of_ble_eq_true rfl) (Nat.le_of_ble_eq_true rfl) (Nat.le_of_ble_eq_true rfl) hl.1 rfl (Nat.le_of_ble_eq_true rfl) (by decide +kernel) (fun H locs hP hD hS => ?_)
  rw [List.append_nil] at hP hD
  replace hP : va_P G.1 smCl (sm_ws shC G [40, 50, d2, e3, e4] M4) _ := hP
  replace hD : va_D A (sm_ws shC G [40, 50, d2, e3, e4] M4) := hD
  refine W.eq (g2 := F0 m 75 ls [.int vd, .ref (sm_ad G (49 + 1))]) rfl ?_
  refine hs_put (j := 49) (k := 14) (b := 0) (C := "TypedMill$Code") (T := tF8) (nF := 16) hx hb hown hts hK hP hD hS rfl rfl rfl rfl (by decide) (sm_mem1 418 (by decide +kernel) (by decide +kernel)) rfl rfl (by decide +kernel) (show decode prog_1_method_8_code 75 = .ok (.putfield 135, 3) by decide +kernel) (fun H locs hP hD hS => ?_)
  replace hP : va_P G.1 smCl (sm_ws shC G [40, 50, d2, e3, e4] (sm_up M4 50 14 vd)) _ := hP
  replace hD : va_D A (sm_ws shC G [40, 50, d2, e3, e4] (sm_up M4 50 14 vd)) := hD
  refine W.eq (g2 := F0 m 78 ls []) rfl ?_
  refine lv_aload_n hx hb (show decode prog_1_method_8_code 78 = .ok (.aload_n 0, 1) by decide +kernel) rfl (lv_at hl 2 rfl) ?_
  refine hs_get (j := 59) (k := 0) (a := 1) (b := 1) (C := "TypedMill") (T := tF0) (nF := 9) hx hb hown hts hK hP rfl rfl rfl (by decide) (sm_mem1 459 (by decide +kernel) (by decide +kernel)) rfl (show decode prog_1_method_8_code 79 = .ok (.getfield 10, 3) by decide +kernel) ?_
  refine lv_iload_n hx hb (show decode prog_1_method_8_code 82 = .ok (.iload_n 2, 1) by decide +kernel) rfl (lv_at hl 1 rfl) ?_
  refine W.eq (g2 := F0 m 83 ls ((([.int (M2 1 7)] : List Value).map (sm_cz (sm_ad G))).reverse ++ .ref (sm_ad G (0 + 1)) :: [])) rfl ?_
  refine wc_V (wr := []) (d := 1) (ix := 138) (j := 0) hx hb hml hown hts (m160 h5) pq160 (sm_mem1 585 (by decide +kernel) (by decide +kernel)) (sm_mem1 586 (by decide +kernel) (by decide +kernel)) (sm_mem1 587 (by decide +kernel) (by decide +kernel)) (T := tF1) (N := 8) rfl rfl hK (by rw [List.append_nil]; exact hP) (by rw [List.append_nil]; exact hD) hS hA hG (Nat.le_of_ble_eq_true rfl) (Nat.le_of_ble_eq_true rfl) (Nat.le_of_ble_eq_true rfl) (Nat.le_of_ble_eq_true rfl) hl.1 rfl (Nat.le_of_ble_eq_true rfl) (by decide +kernel) (fun H locs hP hD hS => ?_)
  rw [List.append_nil] at hP hD
  replace hP : va_P G.1 smCl (sm_ws shC G [40, 50, d2, e3, e4] M6) _ := hP
  replace hD : va_D A (sm_ws shC G [40, 50, d2, e3, e4] M6) := hD
  refine W.eq (g2 := F0 m 86 ls []) rfl ?_
  refine lv_iload_n hx hb (show decode prog_1_method_8_code 86 = .ok (.iload_n 3, 1) by decide +kernel) rfl (lv_at hl 0 rfl) ?_
  refine W.eq (g2 := F0 m 87 ls [.int r]) rfl ?_
  refine lv_if_ne hx hb (show decode prog_1_method_8_code 87 = .ok (.ifCond .ne 11, 3) by decide +kernel) (tgt := 98) (by decide) (fun _ => ?_) (fun h => absurd h (hr))
  refine W.eq (g2 := F0 m 98 ls []) rfl ?_
  refine lv_aload_n hx hb (show decode prog_1_method_8_code 98 = .ok (.aload_n 0, 1) by decide +kernel) rfl (lv_at hl 2 rfl) ?_
  refine hs_get (j := 59) (k := 7) (a := 2) (b := 0) (C := "TypedMill") (T := tF0) (nF := 9) hx hb hown hts hK hP rfl rfl rfl (by decide) (sm_mem1 466 (by decide +kernel) (by decide +kernel)) rfl (show decode prog_1_method_8_code 99 = .ok (.getfield 67, 3) by decide +kernel) ?_
  refine W.eq (g2 := F0 m 102 ls [.ref (sm_ad G 40)]) rfl ?_
  refine lv_astore hx hb (show decode prog_1_method_8_code 102 = .ok (.astore 4, 2) by decide +kernel) hl (by decide) rfl ?_
  clear hl
  intro ls hl
  replace hl : lv_has ls 5 [(4, .ref (sm_ad G 40)), (3, .int r), (2, .int (M2 1 7)), (0, .ref (sm_ad G 60)), (1, .int x)] := hl
  refine W.eq (g2 := F0 m 104 ls []) rfl ?_
  refine lv_aload_n hx hb (show decode prog_1_method_8_code 104 = .ok (.aload_n 0, 1) by decide +kernel) rfl (lv_at hl 3 rfl) ?_
  refine lv_aload_n hx hb (show decode prog_1_method_8_code 105 = .ok (.aload_n 0, 1) by decide +kernel) rfl (lv_at hl 3 rfl) ?_
  refine hs_get (j := 59) (k := 8) (a := 2) (b := 1) (C := "TypedMill") (T := tF0) (nF := 9) hx hb hown hts hK hP rfl rfl rfl (by decide) (sm_mem1 467 (by decide +kernel) (by decide +kernel)) rfl (show decode prog_1_method_8_code 106 = .ok (.getfield 71, 3) by decide +kernel) ?_
  refine W.eq (g2 := F0 m 109 ls [.ref (sm_ad G (49 + 1)), .ref (sm_ad G (59 + 1))]) rfl ?_
  refine hs_putD (j := 59) (k := 7) (jd := 0) (q := 49) (C := "TypedMill") (C' := "TypedMill$Code") (T := tF0) (nF := 9) hx hb hown hts hK hP hD hS rfl rfl (Nat.le_of_ble_eq_true rfl) rfl rfl (by decide) (sm_mem1 466 (by decide +kernel) (by decide +kernel)) rfl rfl (by decide +kernel) (show decode prog_1_method_8_code 109 = .ok (.putfield 67, 3) by decide +kernel) (fun H locs hP hD hS => ?_)
  replace hP : va_P G.1 smCl (sm_ws shC G [50, 50, d2, e3, e4] M6) _ := hP
  replace hD : va_D A (sm_ws shC G [50, 50, d2, e3, e4] M6) := hD
  refine W.eq (g2 := F0 m 112 ls []) rfl ?_
  refine lv_aload_n hx hb (show decode prog_1_method_8_code 112 = .ok (.aload_n 0, 1) by decide +kernel) rfl (lv_at hl 3 rfl) ?_
  refine lv_aload hx hb (show decode prog_1_method_8_code 113 = .ok (.aload 4, 2) by decide +kernel) (lv_at hl 0 rfl) ?_
  refine W.eq (g2 := F0 m 115 ls [.ref (sm_ad G (39 + 1)), .ref (sm_ad G (59 + 1))]) rfl ?_
  refine hs_putD (j := 59) (k := 8) (jd := 1) (q := 39) (C := "TypedMill") (C' := "TypedMill$Code") (T := tF0) (nF := 9) hx hb hown hts hK hP hD hS rfl rfl (Nat.le_of_ble_eq_true rfl) rfl rfl (by decide) (sm_mem1 467 (by decide +kernel) (by decide +kernel)) rfl rfl (by decide +kernel) (show decode prog_1_method_8_code 115 = .ok (.putfield 71, 3) by decide +kernel) (fun H locs hP hD hS => ?_)
  replace hP : va_P G.1 smCl (sm_ws shC G [50, 40, d2, e3, e4] M6) _ := hP
  replace hD : va_D A (sm_ws shC G [50, 40, d2, e3, e4] M6) := hD
  refine W.eq (g2 := F0 m 118 ls []) rfl ?_
  refine lv_aload_n hx hb (show decode prog_1_method_8_code 118 = .ok (.aload_n 0, 1) by decide +kernel) rfl (lv_at hl 3 rfl) ?_
  refine hs_get (j := 59) (k := 6) (a := 1) (b := 33) (C := "TypedMill") (T := tF0) (nF := 9) hx hb hown hts hK hP rfl rfl rfl (by decide) (sm_mem1 465 (by decide +kernel) (by decide +kernel)) rfl (show decode prog_1_method_8_code 119 = .ok (.getfield 60, 3) by decide +kernel) ?_
  refine lv_aload_n hx hb (show decode prog_1_method_8_code 122 = .ok (.aload_n 0, 1) by decide +kernel) rfl (lv_at hl 3 rfl) ?_
  refine hs_get (j := 59) (k := 7) (a := 2) (b := 0) (C := "TypedMill") (T := tF0) (nF := 9) hx hb hown hts hK hP rfl rfl rfl (by decide) (sm_mem1 466 (by decide +kernel) (by decide +kernel)) rfl (show decode prog_1_method_8_code 123 = .ok (.getfield 67, 3) by decide +kernel) ?_
  refine W.eq (g2 := F0 m 126 ls ((([.ref 50] : List Value).map (sm_cz (sm_ad G))).reverse ++ .ref (sm_ad G (32 + 1)) :: [])) rfl ?_
  refine wc_V (wr := []) (d := 1) (ix := 74) (j := 32) hx hb hml hown hts (m138 (by decide) j_begin) pq138 (sm_mem1 454 (by decide +kernel) (by decide +kernel)) (sm_mem1 455 (by decide +kernel) (by decide +kernel)) (sm_mem1 456 (by decide +kernel) (by decide +kernel)) (T := tF7) (N := 11) rfl rfl hK (by rw [List.append_nil]; exact hP) (by rw [List.append_nil]; exact hD) hS hA hG (Nat.le_of_ble_eq_true rfl) (Nat.le_of_ble_eq_true rfl) (Nat.le_of_ble_eq_true rfl) (Nat.le_of_ble_eq_true rfl) hl.1 rfl (Nat.le_of_ble_eq_true rfl) (by decide +kernel) (fun H locs hP hD hS => ?_)
  rw [List.append_nil] at hP hD
  replace hP : va_P G.1 smCl (sm_ws shC G [50, 40, 50, e3, e4] (bgM M6)) _ := hP
  replace hD : va_D A (sm_ws shC G [50, 40, 50, e3, e4] (bgM M6)) := hD
  refine W.eq (g2 := F0 m 129 ls []) rfl ?_
  refine lv_aload_n hx hb (show decode prog_1_method_8_code 129 = .ok (.aload_n 0, 1) by decide +kernel) rfl (lv_at hl 3 rfl) ?_
  refine hs_get (j := 59) (k := 7) (a := 2) (b := 0) (C := "TypedMill") (T := tF0) (nF := 9) hx hb hown hts hK hP rfl rfl rfl (by decide) (sm_mem1 466 (by decide +kernel) (by decide +kernel)) rfl (show decode prog_1_method_8_code 130 = .ok (.getfield 67, 3) by decide +kernel) ?_
  refine W.eq (g2 := F0 m 133 ls [.ref (sm_ad G (49 + 1))]) rfl ?_
  refine hs_get (j := 49) (k := 6) (a := 0) (b := 0) (C := "TypedMill$Code") (T := tF8) (nF := 16) hx hb hown hts hK hP rfl rfl rfl (by decide) (sm_mem1 406 (by decide +kernel) (by decide +kernel)) rfl (show decode prog_1_method_8_code 133 = .ok (.getfield 145, 3) by decide +kernel) ?_
  exact W.iret hx hb hrt (fun t ht hW => ⟨rfl, ⟨by rw [ht]; exact hP, va_K.moved hW.alike hK, hD⟩, hS.F ht⟩) hS.2.2 (by decide +kernel)
set_option maxRecDepth 100000 in
set_option maxHeartbeats 8000000 in
theorem xe_co3B (l : Launch) (hfl : l.flags = flags0) (G : sm_G) (sz : Nat) {x r1 : Int32} {d2 d3 d4 e4 : Nat} {M M1 M2 M3 M4 : sm_M} (h1 : jE_has x [50, 40, d2, d3, d4] M = some (r1, [50, 40, d2, d3, d4], M1)) (hr1 : r1 ≠ 0) (h2 : jA_typeOf x [50, 40, d2, d3, d4] M1 = some (0, [50, 40, d2, d3, d4], M2)) (h3 : jW_translate 40 50 40 d2 d3 d4 x M2 = some (0, [50, 40, d2, d3, e4], M3)) (h4 : jT_forgetFrom (M2 1 7) [50, 40, d2, d3, e4] M3 = some (0, [50, 40, d2, d3, e4], M4)) : xt_Met l ⟨"TypedMill", "compile", "(I)I"⟩ (Cond.code ⟨"TypedMill", "compile", "(I)I"⟩ prog_1_method_8_code 5 (some .int) :: smT) xe_rm (xe_P G sz x [50, 40, d2, d3, d4] M) (xt_Q "java/lang/UnsupportedOperationException" (xe_B G [50, 40, d2, d3, e4] M4 (va_A (sm_ws shC G [50, 40, d2, d3, d4] M) sz)) (va_A (sm_ws shC G [50, 40, d2, d3, d4] M) sz)) 1 6 (va_A (sm_ws shC G [50, 40, d2, d3, d4] M) sz) := by
  refine xt_ofW (cc := prog_1_method_8_code) (maxL := 5) (ret := some .int) (ws' := smT) (by decide) rfl ?_
  intro p e s m args below meth c s₁ B hml hv
  obtain ⟨rfl, hsz, hP, hK, hD0, hG, hxk⟩ := hv
  have hx := B.exec
  have hb := B.bytes
  have hr := B.returns
  have hts0 := atoms_spec (ws := Cond.code ⟨"TypedMill", "compile", "(I)I"⟩ prog_1_method_8_code 5 (some .int) :: smT) B.pre
  have hts : ∀ w ∈ smT, w.before _ s = true := fun w hw => hts0 w (List.mem_cons_of_mem _ hw)
  have hown : s.vm.findClass "TypedMill" = some m.cls := findClass_of_methodNamed B.named
  have hlocks := B.notSynchronized
  have htab : c.exceptionTable.toList = [] := by simpa using B.noHandlers (hts0 _ List.mem_cons_self)
  subst hsz
  have hD := hD0.self (sz := s.heap.size)
  generalize hAe : va_A (sm_ws shC G [50, 40, d2, d3, d4] M) s.heap.size = A at hD hG hxk ⊢
  have hA : ∀ q : Nat, s.heap.size ≤ q → A q := fun q h => by rw [← hAe]; exact Or.inr h
  have hS : va_S A s.heap s.heap [] := va_S.rf
  have hl := lv_entry ([.ref (sm_ad G 60), .int x]) (n := 5) (Nat.le_of_ble_eq_true rfl)
  rw [lg_entry_eq]
  generalize (lg_sl ([.ref (sm_ad G 60), .int x]) ++ List.replicate (5 - (lg_sl ([.ref (sm_ad G 60), .int x])).length) Slot.unset).toArray = ls at hl ⊢
  replace hl : lv_has ls 5 [(0, .ref (sm_ad G 60)), (1, .int x)] := hl
  refine lv_aload_n hx hb (show decode prog_1_method_8_code 0 = .ok (.aload_n 0, 1) by decide +kernel) rfl (lv_at hl 0 rfl) ?_
  refine hs_get (j := 59) (k := 1) (a := 1) (b := 9) (C := "TypedMill") (T := tF0) (nF := 9) hx hb hown hts hK hP rfl rfl rfl (by decide) (sm_mem1 460 (by decide +kernel) (by decide +kernel)) rfl (show decode prog_1_method_8_code 1 = .ok (.getfield 19, 3) by decide +kernel) ?_
  refine lv_iload_n hx hb (show decode prog_1_method_8_code 4 = .ok (.iload_n 1, 1) by decide +kernel) rfl (lv_at hl 1 rfl) ?_
  refine W.eq (g2 := F0 m 5 ls ((([.int x] : List Value).map (sm_cz (sm_ad G))).reverse ++ .ref (sm_ad G (8 + 1)) :: [])) rfl ?_
  refine wc_V (wr := []) (d := 0) (ix := 100) (j := 8) hx hb hml hown hts (m135 h1) pq135 (sm_mem1 538 (by decide +kernel) (by decide +kernel)) (sm_mem1 528 (by decide +kernel) (by decide +kernel)) (sm_mem1 529 (by decide +kernel) (by decide +kernel)) (T := tF2) (N := 7) rfl rfl hK (by rw [List.append_nil]; exact hP) (by rw [List.append_nil]; exact hD) hS hA hG (Nat.le_of_ble_eq_true rfl) (Nat.le_of_ble_eq_true rfl) (Nat.le_of_ble_eq_true rfl) (Nat.le_of_ble_eq_true rfl) hl.1 rfl (Nat.le_of_ble_eq_true rfl) (by decide +kernel) (fun H locs hP hD hS => ?_)
  rw [List.append_nil] at hP hD
  replace hP : va_P G.1 smCl (sm_ws shC G [50, 40, d2, d3, d4] M1) _ := hP
  replace hD : va_D A (sm_ws shC G [50, 40, d2, d3, d4] M1) := hD
  refine W.eq (g2 := F0 m 8 ls [.int r1]) rfl ?_
  refine lv_if_ne hx hb (show decode prog_1_method_8_code 8 = .ok (.ifCond .ne 11, 3) by decide +kernel) (tgt := 19) (by decide) (fun _ => ?_) (fun h => absurd h (hr1))
  refine W.eq (g2 := F0 m 19 ls []) rfl ?_
  refine lv_aload_n hx hb (show decode prog_1_method_8_code 19 = .ok (.aload_n 0, 1) by decide +kernel) rfl (lv_at hl 0 rfl) ?_
  refine lv_iload_n hx hb (show decode prog_1_method_8_code 20 = .ok (.iload_n 1, 1) by decide +kernel) rfl (lv_at hl 1 rfl) ?_
  refine W.eq (g2 := F0 m 21 ls ((([.int x] : List Value).map (sm_cz (sm_ad G))).reverse ++ .ref (sm_ad G (59 + 1)) :: [])) rfl ?_
  refine wc_V (wr := []) (d := 26) (ix := 101) (j := 59) hx hb hml hown hts (m14 h2) pq14 (sm_mem1 539 (by decide +kernel) (by decide +kernel)) (sm_mem1 541 (by decide +kernel) (by decide +kernel)) (sm_mem1 3 (by decide +kernel) (by decide +kernel)) (T := tF0) (N := 9) rfl rfl hK (by rw [List.append_nil]; exact hP) (by rw [List.append_nil]; exact hD) hS hA hG (Nat.le_of_ble_eq_true rfl) (Nat.le_of_ble_eq_true rfl) (Nat.le_of_ble_eq_true rfl) (Nat.le_of_ble_eq_true rfl) hl.1 rfl (Nat.le_of_ble_eq_true rfl) (by decide +kernel) (fun H locs hP hD hS => ?_)
  rw [List.append_nil] at hP hD
  replace hP : va_P G.1 smCl (sm_ws shC G [50, 40, d2, d3, d4] M2) _ := hP
  replace hD : va_D A (sm_ws shC G [50, 40, d2, d3, d4] M2) := hD
  refine W.eq (g2 := F0 m 24 ls [.int 0]) rfl ?_
  refine lv_if_eq hx hb (show decode prog_1_method_8_code 24 = .ok (.ifCond .eq 11, 3) by decide +kernel) (tgt := 35) (by decide) (fun _ => ?_) (fun h => absurd h (not_not_intro rfl))
  refine W.eq (g2 := F0 m 35 ls []) rfl ?_
  refine lv_aload_n hx hb (show decode prog_1_method_8_code 35 = .ok (.aload_n 0, 1) by decide +kernel) rfl (lv_at hl 0 rfl) ?_
  refine hs_get (j := 59) (k := 0) (a := 1) (b := 1) (C := "TypedMill") (T := tF0) (nF := 9) hx hb hown hts hK hP rfl rfl rfl (by decide) (sm_mem1 459 (by decide +kernel) (by decide +kernel)) rfl (show decode prog_1_method_8_code 36 = .ok (.getfield 10, 3) by decide +kernel) ?_
  refine hs_get (j := 0) (k := 7) (a := 0) (b := 0) (C := "TypedMill$Types") (T := tF1) (nF := 8) hx hb hown hts hK hP rfl rfl rfl (by decide) (sm_mem1 167 (by decide +kernel) (by decide +kernel)) rfl (show decode prog_1_method_8_code 39 = .ok (.getfield 124, 3) by decide +kernel) ?_
  refine W.eq (g2 := F0 m 42 ls [.int (M2 1 7)]) rfl ?_
  refine lv_istore_n hx hb (show decode prog_1_method_8_code 42 = .ok (.istore_n 2, 1) by decide +kernel) rfl hl (by decide) rfl ?_
  clear hl
  intro ls hl
  replace hl : lv_has ls 5 [(2, .int (M2 1 7)), (0, .ref (sm_ad G 60)), (1, .int x)] := hl
  refine W.eq (g2 := F0 m 43 ls []) rfl ?_
  refine lv_aload_n hx hb (show decode prog_1_method_8_code 43 = .ok (.aload_n 0, 1) by decide +kernel) rfl (lv_at hl 1 rfl) ?_
  refine hs_get (j := 59) (k := 4) (a := 1) (b := 24) (C := "TypedMill") (T := tF0) (nF := 9) hx hb hown hts hK hP rfl rfl rfl (by decide) (sm_mem1 463 (by decide +kernel) (by decide +kernel)) rfl (show decode prog_1_method_8_code 44 = .ok (.getfield 44, 3) by decide +kernel) ?_
  refine lv_iload_n hx hb (show decode prog_1_method_8_code 47 = .ok (.iload_n 1, 1) by decide +kernel) rfl (lv_at hl 2 rfl) ?_
  refine lv_aload_n hx hb (show decode prog_1_method_8_code 48 = .ok (.aload_n 0, 1) by decide +kernel) rfl (lv_at hl 1 rfl) ?_
  refine hs_get (j := 59) (k := 8) (a := 2) (b := 1) (C := "TypedMill") (T := tF0) (nF := 9) hx hb hown hts hK hP rfl rfl rfl (by decide) (sm_mem1 467 (by decide +kernel) (by decide +kernel)) rfl (show decode prog_1_method_8_code 49 = .ok (.getfield 71, 3) by decide +kernel) ?_
  refine W.eq (g2 := F0 m 52 ls ((([.int x, .ref 40] : List Value).map (sm_cz (sm_ad G))).reverse ++ .ref (sm_ad G (23 + 1)) :: [])) rfl ?_
  refine wc_V (wr := []) (d := 34) (ix := 127) (j := 23) hx hb hml hown hts (m116 (by decide) h3) pq116 (sm_mem1 946 (by decide +kernel) (by decide +kernel)) (sm_mem1 947 (by decide +kernel) (by decide +kernel)) (sm_mem1 948 (by decide +kernel) (by decide +kernel)) (T := tF5) (N := 11) rfl rfl hK (by rw [List.append_nil]; exact hP) (by rw [List.append_nil]; exact hD) hS hA hG (Nat.le_of_ble_eq_true rfl) (Nat.le_of_ble_eq_true rfl) (Nat.le_of_ble_eq_true rfl) (Nat.le_of_ble_eq_true rfl) hl.1 rfl (Nat.le_of_ble_eq_true rfl) (by decide +kernel) (fun H locs hP hD hS => ?_)
  rw [List.append_nil] at hP hD
  replace hP : va_P G.1 smCl (sm_ws shC G [50, 40, d2, d3, e4] M3) _ := hP
  replace hD : va_D A (sm_ws shC G [50, 40, d2, d3, e4] M3) := hD
  refine W.eq (g2 := F0 m 55 ls [.int 0]) rfl ?_
  refine lv_istore_n hx hb (show decode prog_1_method_8_code 55 = .ok (.istore_n 3, 1) by decide +kernel) rfl hl (by decide) rfl ?_
  clear hl
  intro ls hl
  replace hl : lv_has ls 5 [(3, .int 0), (2, .int (M2 1 7)), (0, .ref (sm_ad G 60)), (1, .int x)] := hl
  refine W.eq (g2 := F0 m 56 ls []) rfl ?_
  refine lv_iload_n hx hb (show decode prog_1_method_8_code 56 = .ok (.iload_n 3, 1) by decide +kernel) rfl (lv_at hl 0 rfl) ?_
  refine W.eq (g2 := F0 m 57 ls [.int 0]) rfl ?_
  refine lv_if_eq hx hb (show decode prog_1_method_8_code 57 = .ok (.ifCond .eq 21, 3) by decide +kernel) (tgt := 78) (by decide) (fun _ => ?_) (fun h => absurd h (not_not_intro rfl))
  refine W.eq (g2 := F0 m 78 ls []) rfl ?_
  refine lv_aload_n hx hb (show decode prog_1_method_8_code 78 = .ok (.aload_n 0, 1) by decide +kernel) rfl (lv_at hl 2 rfl) ?_
  refine hs_get (j := 59) (k := 0) (a := 1) (b := 1) (C := "TypedMill") (T := tF0) (nF := 9) hx hb hown hts hK hP rfl rfl rfl (by decide) (sm_mem1 459 (by decide +kernel) (by decide +kernel)) rfl (show decode prog_1_method_8_code 79 = .ok (.getfield 10, 3) by decide +kernel) ?_
  refine lv_iload_n hx hb (show decode prog_1_method_8_code 82 = .ok (.iload_n 2, 1) by decide +kernel) rfl (lv_at hl 1 rfl) ?_
  refine W.eq (g2 := F0 m 83 ls ((([.int (M2 1 7)] : List Value).map (sm_cz (sm_ad G))).reverse ++ .ref (sm_ad G (0 + 1)) :: [])) rfl ?_
  refine wc_V (wr := []) (d := 1) (ix := 138) (j := 0) hx hb hml hown hts (m160 h4) pq160 (sm_mem1 585 (by decide +kernel) (by decide +kernel)) (sm_mem1 586 (by decide +kernel) (by decide +kernel)) (sm_mem1 587 (by decide +kernel) (by decide +kernel)) (T := tF1) (N := 8) rfl rfl hK (by rw [List.append_nil]; exact hP) (by rw [List.append_nil]; exact hD) hS hA hG (Nat.le_of_ble_eq_true rfl) (Nat.le_of_ble_eq_true rfl) (Nat.le_of_ble_eq_true rfl) (Nat.le_of_ble_eq_true rfl) hl.1 rfl (Nat.le_of_ble_eq_true rfl) (by decide +kernel) (fun H locs hP hD hS => ?_)
  rw [List.append_nil] at hP hD
  replace hP : va_P G.1 smCl (sm_ws shC G [50, 40, d2, d3, e4] M4) _ := hP
  replace hD : va_D A (sm_ws shC G [50, 40, d2, d3, e4] M4) := hD
  refine W.eq (g2 := F0 m 86 ls []) rfl ?_
  refine lv_iload_n hx hb (show decode prog_1_method_8_code 86 = .ok (.iload_n 3, 1) by decide +kernel) rfl (lv_at hl 0 rfl) ?_
  refine W.eq (g2 := F0 m 87 ls [.int 0]) rfl ?_
  refine lv_if_ne hx hb (show decode prog_1_method_8_code 87 = .ok (.ifCond .ne 11, 3) by decide +kernel) (tgt := 98) (by decide) (fun h => absurd h (not_not_intro rfl)) (fun _ => ?_)
  refine W.eq (g2 := F0 m 90 ls []) rfl ?_
  exact xt_throw (own := "TypedMill") (cls := "java/lang/UnsupportedOperationException") (names := ["java/lang/RuntimeException", "java/lang/Exception"]) (ixN := 142) (ic := 144) (nL := 5) hfl hx hb hml hl.1 hown hts hlocks htab hxk hS (by decide +kernel) (by decide +kernel) (sm_mem1 996 (by decide +kernel) (by decide +kernel)) (sm_mem1 997 (by decide +kernel) (by decide +kernel)) (sm_mem1 121 (by decide +kernel) (by decide +kernel)) xa_UO (by decide +kernel) (by decide +kernel) (by decide +kernel) (by decide +kernel) (Nat.le_of_ble_eq_true rfl) (Nat.le_of_ble_eq_true rfl) (Nat.le_of_ble_eq_true rfl) (Nat.le_of_ble_eq_true rfl) (Nat.le_of_ble_eq_true rfl) (fun y t ce h1 h2 h3 h4 h5 h6 => ⟨⟨ce, h1, h2, h3⟩, ⟨fun k q hq => (hP k q hq).kept (h4 q.1 ((hP k q hq).lt)), va_K.moved h6.alike hK, hD⟩, Nat.le_trans hS.1 h5, fun q g1 g2 => by rw [h4 q (Nat.lt_of_lt_of_le g1 hS.1)]; exact hS.2.1 q g1 g2⟩) hS.2.2
set_option maxRecDepth 100000 in
set_option maxHeartbeats 8000000 in
theorem xe_co4B {x r1 r vd : Int32} {d2 d3 d4 e3 e4 : Nat} {M M1 M2 M3 M4 M6 : sm_M} (h1 : jE_has x [50, 40, d2, d3, d4] M = some (r1, [50, 40, d2, d3, d4], M1)) (hr1 : r1 ≠ 0) (h2 : jA_typeOf x [50, 40, d2, d3, d4] M1 = some (0, [50, 40, d2, d3, d4], M2)) (h3 : jW_translate 40 50 40 d2 d3 d4 x M2 = some (r, [50, 40, d2, d3, e4], M3)) (hr : r ≠ 0) (h4 : jK_verdictOn 40 50 40 d2 d3 e4 M3 = some (vd, [50, 40, d2, e3, e4], M4)) (h5 : jT_forgetFrom (M2 1 7) [50, 40, d2, e3, e4] (sm_up M4 40 14 vd) = some (0, [50, 40, d2, e3, e4], M6)) : sm_MJ smT smCl smSa shC fCo 130 [.ref 60, .int x] [50, 40, d2, d3, d4] M (bgM M6 40 6, [40, 50, 40, e3, e4], bgM M6) := by
  intro l G sz
  refine Met.ofW (cc := prog_1_method_8_code) (maxL := 5) (ret := some .int) (ws' := smT) (by decide) rfl ?_
  intro p e s m args below meth c s₁ B hml hv
  obtain ⟨rfl, hsz, hP, hK, hD0, hG⟩ := hv
  have hx := B.exec
  have hb := B.bytes
  have hrt := B.returns
  have hts0 := atoms_spec (ws := Cond.code ⟨"TypedMill", "compile", "(I)I"⟩ prog_1_method_8_code 5 (some .int) :: smT) B.pre
  have hts : ∀ w ∈ smT, w.before _ s = true := fun w hw => hts0 w (List.mem_cons_of_mem _ hw)
  have hown : s.vm.findClass "TypedMill" = some m.cls := findClass_of_methodNamed B.named
  have hlocks := B.notSynchronized
  have htab : c.exceptionTable.toList = [] := by simpa using B.noHandlers (hts0 _ List.mem_cons_self)
  subst hsz
  have hD := hD0.self (sz := s.heap.size)
  generalize hAe : va_A (sm_ws shC G [50, 40, d2, d3, d4] M) s.heap.size = A at hD hG ⊢
  have hA : ∀ q : Nat, s.heap.size ≤ q → A q := fun q h => by rw [← hAe]; exact Or.inr h
  have hS : va_S A s.heap s.heap [] := va_S.rf
  have hl := lv_entry (([.ref 60, .int x] : List Value).map (sm_cz (sm_ad G))) (n := 5) (Nat.le_of_ble_eq_true rfl)
  rw [lg_entry_eq]
  generalize (lg_sl (([.ref 60, .int x] : List Value).map (sm_cz (sm_ad G))) ++ List.replicate (5 - (lg_sl (([.ref 60, .int x] : List Value).map (sm_cz (sm_ad G)))).length) Slot.unset).toArray = ls at hl ⊢
  replace hl : lv_has ls 5 [(0, .ref (sm_ad G 60)), (1, .int x)] := hl
  refine lv_aload_n hx hb (show decode prog_1_method_8_code 0 = .ok (.aload_n 0, 1) by decide +kernel) rfl (lv_at hl 0 rfl) ?_
  refine hs_get (j := 59) (k := 1) (a := 1) (b := 9) (C := "TypedMill") (T := tF0) (nF := 9) hx hb hown hts hK hP rfl rfl rfl (by decide) (sm_mem1 460 (by decide +kernel) (by decide +kernel)) rfl (show decode prog_1_method_8_code 1 = .ok (.getfield 19, 3) by decide +kernel) ?_
  refine lv_iload_n hx hb (show decode prog_1_method_8_code 4 = .ok (.iload_n 1, 1) by decide +kernel) rfl (lv_at hl 1 rfl) ?_
  refine W.eq (g2 := F0 m 5 ls ((([.int x] : List Value).map (sm_cz (sm_ad G))).reverse ++ .ref (sm_ad G (8 + 1)) :: [])) rfl ?_
  refine wc_V (wr := []) (d := 0) (ix := 100) (j := 8) hx hb hml hown hts (m135 h1) pq135 (sm_mem1 538 (by decide +kernel) (by decide +kernel)) (sm_mem1 528 (by decide +kernel) (by decide +kernel)) (sm_mem1 529 (by decide +kernel) (by decide +kernel)) (T := tF2) (N := 7) rfl rfl hK (by rw [List.append_nil]; exact hP) (by rw [List.append_nil]; exact hD) hS hA hG (Nat.le_of_ble_eq_true rfl) (Nat.le_of_ble_eq_true rfl) (Nat.le_of_ble_eq_true rfl) (Nat.le_of_ble_eq_true rfl) hl.1 rfl (Nat.le_of_ble_eq_true rfl) (by decide +kernel) (fun H locs hP hD hS => ?_)
  rw [List.append_nil] at hP hD
  replace hP : va_P G.1 smCl (sm_ws shC G [50, 40, d2, d3, d4] M1) _ := hP
  replace hD : va_D A (sm_ws shC G [50, 40, d2, d3, d4] M1) := hD
  refine W.eq (g2 := F0 m 8 ls [.int r1]) rfl ?_
  refine lv_if_ne hx hb (show decode prog_1_method_8_code 8 = .ok (.ifCond .ne 11, 3) by decide +kernel) (tgt := 19) (by decide) (fun _ => ?_) (fun h => absurd h (hr1))
  refine W.eq (g2 := F0 m 19 ls []) rfl ?_
  refine lv_aload_n hx hb (show decode prog_1_method_8_code 19 = .ok (.aload_n 0, 1) by decide +kernel) rfl (lv_at hl 0 rfl) ?_
  refine lv_iload_n hx hb (show decode prog_1_method_8_code 20 = .ok (.iload_n 1, 1) by decide +kernel) rfl (lv_at hl 1 rfl) ?_
  refine W.eq (g2 := F0 m 21 ls ((([.int x] : List Value).map (sm_cz (sm_ad G))).reverse ++ .ref (sm_ad G (59 + 1)) :: [])) rfl ?_
  refine wc_V (wr := []) (d := 26) (ix := 101) (j := 59) hx hb hml hown hts (m14 h2) pq14 (sm_mem1 539 (by decide +kernel) (by decide +kernel)) (sm_mem1 541 (by decide +kernel) (by decide +kernel)) (sm_mem1 3 (by decide +kernel) (by decide +kernel)) (T := tF0) (N := 9) rfl rfl hK (by rw [List.append_nil]; exact hP) (by rw [List.append_nil]; exact hD) hS hA hG (Nat.le_of_ble_eq_true rfl) (Nat.le_of_ble_eq_true rfl) (Nat.le_of_ble_eq_true rfl) (Nat.le_of_ble_eq_true rfl) hl.1 rfl (Nat.le_of_ble_eq_true rfl) (by decide +kernel) (fun H locs hP hD hS => ?_)
  rw [List.append_nil] at hP hD
  replace hP : va_P G.1 smCl (sm_ws shC G [50, 40, d2, d3, d4] M2) _ := hP
  replace hD : va_D A (sm_ws shC G [50, 40, d2, d3, d4] M2) := hD
  refine W.eq (g2 := F0 m 24 ls [.int 0]) rfl ?_
  refine lv_if_eq hx hb (show decode prog_1_method_8_code 24 = .ok (.ifCond .eq 11, 3) by decide +kernel) (tgt := 35) (by decide) (fun _ => ?_) (fun h => absurd h (not_not_intro rfl))
  refine W.eq (g2 := F0 m 35 ls []) rfl ?_
  refine lv_aload_n hx hb (show decode prog_1_method_8_code 35 = .ok (.aload_n 0, 1) by decide +kernel) rfl (lv_at hl 0 rfl) ?_
  refine hs_get (j := 59) (k := 0) (a := 1) (b := 1) (C := "TypedMill") (T := tF0) (nF := 9) hx hb hown hts hK hP rfl rfl rfl (by decide) (sm_mem1 459 (by decide +kernel) (by decide +kernel)) rfl (show decode prog_1_method_8_code 36 = .ok (.getfield 10, 3) by decide +kernel) ?_
  refine hs_get (j := 0) (k := 7) (a := 0) (b := 0) (C := "TypedMill$Types") (T := tF1) (nF := 8) hx hb hown hts hK hP rfl rfl rfl (by decide) (sm_mem1 167 (by decide +kernel) (by decide +kernel)) rfl (show decode prog_1_method_8_code 39 = .ok (.getfield 124, 3) by decide +kernel) ?_
  refine W.eq (g2 := F0 m 42 ls [.int (M2 1 7)]) rfl ?_
  refine lv_istore_n hx hb (show decode prog_1_method_8_code 42 = .ok (.istore_n 2, 1) by decide +kernel) rfl hl (by decide) rfl ?_
  clear hl
  intro ls hl
  replace hl : lv_has ls 5 [(2, .int (M2 1 7)), (0, .ref (sm_ad G 60)), (1, .int x)] := hl
  refine W.eq (g2 := F0 m 43 ls []) rfl ?_
  refine lv_aload_n hx hb (show decode prog_1_method_8_code 43 = .ok (.aload_n 0, 1) by decide +kernel) rfl (lv_at hl 1 rfl) ?_
  refine hs_get (j := 59) (k := 4) (a := 1) (b := 24) (C := "TypedMill") (T := tF0) (nF := 9) hx hb hown hts hK hP rfl rfl rfl (by decide) (sm_mem1 463 (by decide +kernel) (by decide +kernel)) rfl (show decode prog_1_method_8_code 44 = .ok (.getfield 44, 3) by decide +kernel) ?_
  refine lv_iload_n hx hb (show decode prog_1_method_8_code 47 = .ok (.iload_n 1, 1) by decide +kernel) rfl (lv_at hl 2 rfl) ?_
  refine lv_aload_n hx hb (show decode prog_1_method_8_code 48 = .ok (.aload_n 0, 1) by decide +kernel) rfl (lv_at hl 1 rfl) ?_
  refine hs_get (j := 59) (k := 8) (a := 2) (b := 1) (C := "TypedMill") (T := tF0) (nF := 9) hx hb hown hts hK hP rfl rfl rfl (by decide) (sm_mem1 467 (by decide +kernel) (by decide +kernel)) rfl (show decode prog_1_method_8_code 49 = .ok (.getfield 71, 3) by decide +kernel) ?_
  refine W.eq (g2 := F0 m 52 ls ((([.int x, .ref 40] : List Value).map (sm_cz (sm_ad G))).reverse ++ .ref (sm_ad G (23 + 1)) :: [])) rfl ?_
  refine wc_V (wr := []) (d := 34) (ix := 127) (j := 23) hx hb hml hown hts (m116 (by decide) h3) pq116 (sm_mem1 946 (by decide +kernel) (by decide +kernel)) (sm_mem1 947 (by decide +kernel) (by decide +kernel)) (sm_mem1 948 (by decide +kernel) (by decide +kernel)) (T := tF5) (N := 11) rfl rfl hK (by rw [List.append_nil]; exact hP) (by rw [List.append_nil]; exact hD) hS hA hG (Nat.le_of_ble_eq_true rfl) (Nat.le_of_ble_eq_true rfl) (Nat.le_of_ble_eq_true rfl) (Nat.le_of_ble_eq_true rfl) hl.1 rfl (Nat.le_of_ble_eq_true rfl) (by decide +kernel) (fun H locs hP hD hS => ?_)
  rw [List.append_nil] at hP hD
  replace hP : va_P G.1 smCl (sm_ws shC G [50, 40, d2, d3, e4] M3) _ := hP
  replace hD : va_D A (sm_ws shC G [50, 40, d2, d3, e4] M3) := hD
  refine W.eq (g2 := F0 m 55 ls [.int r]) rfl ?_
  refine lv_istore_n hx hb (show decode prog_1_method_8_code 55 = .ok (.istore_n 3, 1) by decide +kernel) rfl hl (by decide) rfl ?_
  clear hl
  intro ls hl
  replace hl : lv_has ls 5 [(3, .int r), (2, .int (M2 1 7)), (0, .ref (sm_ad G 60)), (1, .int x)] := hl
  refine W.eq (g2 := F0 m 56 ls []) rfl ?_
  refine lv_iload_n hx hb (show decode prog_1_method_8_code 56 = .ok (.iload_n 3, 1) by decide +kernel) rfl (lv_at hl 0 rfl) ?_
  refine W.eq (g2 := F0 m 57 ls [.int r]) rfl ?_
  refine lv_if_eq hx hb (show decode prog_1_method_8_code 57 = .ok (.ifCond .eq 21, 3) by decide +kernel) (tgt := 78) (by decide) (fun h => absurd h (hr)) (fun _ => ?_)
  refine W.eq (g2 := F0 m 60 ls []) rfl ?_
  refine lv_aload_n hx hb (show decode prog_1_method_8_code 60 = .ok (.aload_n 0, 1) by decide +kernel) rfl (lv_at hl 2 rfl) ?_
  refine hs_get (j := 59) (k := 8) (a := 2) (b := 1) (C := "TypedMill") (T := tF0) (nF := 9) hx hb hown hts hK hP rfl rfl rfl (by decide) (sm_mem1 467 (by decide +kernel) (by decide +kernel)) rfl (show decode prog_1_method_8_code 61 = .ok (.getfield 71, 3) by decide +kernel) ?_
  refine lv_aload_n hx hb (show decode prog_1_method_8_code 64 = .ok (.aload_n 0, 1) by decide +kernel) rfl (lv_at hl 2 rfl) ?_
  refine hs_get (j := 59) (k := 5) (a := 1) (b := 31) (C := "TypedMill") (T := tF0) (nF := 9) hx hb hown hts hK hP rfl rfl rfl (by decide) (sm_mem1 464 (by decide +kernel) (by decide +kernel)) rfl (show decode prog_1_method_8_code 65 = .ok (.getfield 53, 3) by decide +kernel) ?_
  refine lv_aload_n hx hb (show decode prog_1_method_8_code 68 = .ok (.aload_n 0, 1) by decide +kernel) rfl (lv_at hl 2 rfl) ?_
  refine hs_get (j := 59) (k := 8) (a := 2) (b := 1) (C := "TypedMill") (T := tF0) (nF := 9) hx hb hown hts hK hP rfl rfl rfl (by decide) (sm_mem1 467 (by decide +kernel) (by decide +kernel)) rfl (show decode prog_1_method_8_code 69 = .ok (.getfield 71, 3) by decide +kernel) ?_
  refine W.eq (g2 := F0 m 72 ls ((([.ref 40] : List Value).map (sm_cz (sm_ad G))).reverse ++ .ref (sm_ad G (30 + 1)) :: [.ref (sm_ad G 40)])) rfl ?_
  refine wc_V (wr := []) (d := 6) (ix := 131) (j := 30) hx hb hml hown hts (m89 (by decide) h4) pq89 (sm_mem1 645 (by decide +kernel) (by decide +kernel)) (sm_mem1 646 (by decide +kernel) (by decide +kernel)) (sm_mem1 647 (by decide +kernel) (by decide +kernel)) (T := tF6) (N := 3) rfl rfl hK (by rw [List.append_nil]; exact hP) (by rw [List.append_nil]; exact hD) hS hA hG (Nat.le_of_ble_eq_true rfl) (Nat.le_of_ble_eq_true rfl) (Nat.le_of_ble_eq_true rfl) (Nat.le_of_ble_eq_true rfl) hl.1 rfl (Nat.le_of_ble_eq_true rfl) (by decide +kernel) (fun H locs hP hD hS => ?_)
  rw [List.append_nil] at hP hD
  replace hP : va_P G.1 smCl (sm_ws shC G [50, 40, d2, e3, e4] M4) _ := hP
  replace hD : va_D A (sm_ws shC G [50, 40, d2, e3, e4] M4) := hD
  refine W.eq (g2 := F0 m 75 ls [.int vd, .ref (sm_ad G (39 + 1))]) rfl ?_
  refine hs_put (j := 39) (k := 14) (b := 0) (C := "TypedMill$Code") (T := tF8) (nF := 16) hx hb hown hts hK hP hD hS rfl rfl rfl rfl (by decide) (sm_mem1 418 (by decide +kernel) (by decide +kernel)) rfl rfl (by decide +kernel) (show decode prog_1_method_8_code 75 = .ok (.putfield 135, 3) by decide +kernel) (fun H locs hP hD hS => ?_)
  replace hP : va_P G.1 smCl (sm_ws shC G [50, 40, d2, e3, e4] (sm_up M4 40 14 vd)) _ := hP
  replace hD : va_D A (sm_ws shC G [50, 40, d2, e3, e4] (sm_up M4 40 14 vd)) := hD
  refine W.eq (g2 := F0 m 78 ls []) rfl ?_
  refine lv_aload_n hx hb (show decode prog_1_method_8_code 78 = .ok (.aload_n 0, 1) by decide +kernel) rfl (lv_at hl 2 rfl) ?_
  refine hs_get (j := 59) (k := 0) (a := 1) (b := 1) (C := "TypedMill") (T := tF0) (nF := 9) hx hb hown hts hK hP rfl rfl rfl (by decide) (sm_mem1 459 (by decide +kernel) (by decide +kernel)) rfl (show decode prog_1_method_8_code 79 = .ok (.getfield 10, 3) by decide +kernel) ?_
  refine lv_iload_n hx hb (show decode prog_1_method_8_code 82 = .ok (.iload_n 2, 1) by decide +kernel) rfl (lv_at hl 1 rfl) ?_
  refine W.eq (g2 := F0 m 83 ls ((([.int (M2 1 7)] : List Value).map (sm_cz (sm_ad G))).reverse ++ .ref (sm_ad G (0 + 1)) :: [])) rfl ?_
  refine wc_V (wr := []) (d := 1) (ix := 138) (j := 0) hx hb hml hown hts (m160 h5) pq160 (sm_mem1 585 (by decide +kernel) (by decide +kernel)) (sm_mem1 586 (by decide +kernel) (by decide +kernel)) (sm_mem1 587 (by decide +kernel) (by decide +kernel)) (T := tF1) (N := 8) rfl rfl hK (by rw [List.append_nil]; exact hP) (by rw [List.append_nil]; exact hD) hS hA hG (Nat.le_of_ble_eq_true rfl) (Nat.le_of_ble_eq_true rfl) (Nat.le_of_ble_eq_true rfl) (Nat.le_of_ble_eq_true rfl) hl.1 rfl (Nat.le_of_ble_eq_true rfl) (by decide +kernel) (fun H locs hP hD hS => ?_)
  rw [List.append_nil] at hP hD
  replace hP : va_P G.1 smCl (sm_ws shC G [50, 40, d2, e3, e4] M6) _ := hP
  replace hD : va_D A (sm_ws shC G [50, 40, d2, e3, e4] M6) := hD
  refine W.eq (g2 := F0 m 86 ls []) rfl ?_
  refine lv_iload_n hx hb (show decode prog_1_method_8_code 86 = .ok (.iload_n 3, 1) by decide +kernel) rfl (lv_at hl 0 rfl) ?_
  refine W.eq (g2 := F0 m 87 ls [.int r]) rfl ?_
  refine lv_if_ne hx hb (show decode prog_1_method_8_code 87 = .ok (.ifCond .ne 11, 3) by decide +kernel) (tgt := 98) (by decide) (fun _ => ?_) (fun h => absurd h (hr))
  refine W.eq (g2 := F0 m 98 ls []) rfl ?_
  refine lv_aload_n hx hb (show decode prog_1_method_8_code 98 = .ok (.aload_n 0, 1) by decide +kernel) rfl (lv_at hl 2 rfl) ?_
  refine hs_get (j := 59) (k := 7) (a := 2) (b := 0) (C := "TypedMill") (T := tF0) (nF := 9) hx hb hown hts hK hP rfl rfl rfl (by decide) (sm_mem1 466 (by decide +kernel) (by decide +kernel)) rfl (show decode prog_1_method_8_code 99 = .ok (.getfield 67, 3) by decide +kernel) ?_
  refine W.eq (g2 := F0 m 102 ls [.ref (sm_ad G 50)]) rfl ?_
  refine lv_astore hx hb (show decode prog_1_method_8_code 102 = .ok (.astore 4, 2) by decide +kernel) hl (by decide) rfl ?_
  clear hl
  intro ls hl
  replace hl : lv_has ls 5 [(4, .ref (sm_ad G 50)), (3, .int r), (2, .int (M2 1 7)), (0, .ref (sm_ad G 60)), (1, .int x)] := hl
  refine W.eq (g2 := F0 m 104 ls []) rfl ?_
  refine lv_aload_n hx hb (show decode prog_1_method_8_code 104 = .ok (.aload_n 0, 1) by decide +kernel) rfl (lv_at hl 3 rfl) ?_
  refine lv_aload_n hx hb (show decode prog_1_method_8_code 105 = .ok (.aload_n 0, 1) by decide +kernel) rfl (lv_at hl 3 rfl) ?_
  refine hs_get (j := 59) (k := 8) (a := 2) (b := 1) (C := "TypedMill") (T := tF0) (nF := 9) hx hb hown hts hK hP rfl rfl rfl (by decide) (sm_mem1 467 (by decide +kernel) (by decide +kernel)) rfl (show decode prog_1_method_8_code 106 = .ok (.getfield 71, 3) by decide +kernel) ?_
  refine W.eq (g2 := F0 m 109 ls [.ref (sm_ad G (39 + 1)), .ref (sm_ad G (59 + 1))]) rfl ?_
  refine hs_putD (j := 59) (k := 7) (jd := 0) (q := 39) (C := "TypedMill") (C' := "TypedMill$Code") (T := tF0) (nF := 9) hx hb hown hts hK hP hD hS rfl rfl (Nat.le_of_ble_eq_true rfl) rfl rfl (by decide) (sm_mem1 466 (by decide +kernel) (by decide +kernel)) rfl rfl (by decide +kernel) (show decode prog_1_method_8_code 109 = .ok (.putfield 67, 3) by decide +kernel) (fun H locs hP hD hS => ?_)
  replace hP : va_P G.1 smCl (sm_ws shC G [40, 40, d2, e3, e4] M6) _ := hP
  replace hD : va_D A (sm_ws shC G [40, 40, d2, e3, e4] M6) := hD
  refine W.eq (g2 := F0 m 112 ls []) rfl ?_
  refine lv_aload_n hx hb (show decode prog_1_method_8_code 112 = .ok (.aload_n 0, 1) by decide +kernel) rfl (lv_at hl 3 rfl) ?_
  refine lv_aload hx hb (show decode prog_1_method_8_code 113 = .ok (.aload 4, 2) by decide +kernel) (lv_at hl 0 rfl) ?_
  refine W.eq (g2 := F0 m 115 ls [.ref (sm_ad G (49 + 1)), .ref (sm_ad G (59 + 1))]) rfl ?_
  refine hs_putD (j := 59) (k := 8) (jd := 1) (q := 49) (C := "TypedMill") (C' := "TypedMill$Code") (T := tF0) (nF := 9) hx hb hown hts hK hP hD hS rfl rfl (Nat.le_of_ble_eq_true rfl) rfl rfl (by decide) (sm_mem1 467 (by decide +kernel) (by decide +kernel)) rfl rfl (by decide +kernel) (show decode prog_1_method_8_code 115 = .ok (.putfield 71, 3) by decide +kernel) (fun H locs hP hD hS => ?_)
  replace hP : va_P G.1 smCl (sm_ws shC G [40, 50, d2, e3, e4] M6) _ := hP
  replace hD : va_D A (sm_ws shC G [40, 50, d2, e3, e4] M6) := hD
  refine W.eq (g2 := F0 m 118 ls []) rfl ?_
  refine lv_aload_n hx hb (show decode prog_1_method_8_code 118 = .ok (.aload_n 0, 1) by decide +kernel) rfl (lv_at hl 3 rfl) ?_
  refine hs_get (j := 59) (k := 6) (a := 1) (b := 33) (C := "TypedMill") (T := tF0) (nF := 9) hx hb hown hts hK hP rfl rfl rfl (by decide) (sm_mem1 465 (by decide +kernel) (by decide +kernel)) rfl (show decode prog_1_method_8_code 119 = .ok (.getfield 60, 3) by decide +kernel) ?_
  refine lv_aload_n hx hb (show decode prog_1_method_8_code 122 = .ok (.aload_n 0, 1) by decide +kernel) rfl (lv_at hl 3 rfl) ?_
  refine hs_get (j := 59) (k := 7) (a := 2) (b := 0) (C := "TypedMill") (T := tF0) (nF := 9) hx hb hown hts hK hP rfl rfl rfl (by decide) (sm_mem1 466 (by decide +kernel) (by decide +kernel)) rfl (show decode prog_1_method_8_code 123 = .ok (.getfield 67, 3) by decide +kernel) ?_
  refine W.eq (g2 := F0 m 126 ls ((([.ref 40] : List Value).map (sm_cz (sm_ad G))).reverse ++ .ref (sm_ad G (32 + 1)) :: [])) rfl ?_
  refine wc_V (wr := []) (d := 1) (ix := 74) (j := 32) hx hb hml hown hts (m138 (by decide) j_begin) pq138 (sm_mem1 454 (by decide +kernel) (by decide +kernel)) (sm_mem1 455 (by decide +kernel) (by decide +kernel)) (sm_mem1 456 (by decide +kernel) (by decide +kernel)) (T := tF7) (N := 11) rfl rfl hK (by rw [List.append_nil]; exact hP) (by rw [List.append_nil]; exact hD) hS hA hG (Nat.le_of_ble_eq_true rfl) (Nat.le_of_ble_eq_true rfl) (Nat.le_of_ble_eq_true rfl) (Nat.le_of_ble_eq_true rfl) hl.1 rfl (Nat.le_of_ble_eq_true rfl) (by decide +kernel) (fun H locs hP hD hS => ?_)
  rw [List.append_nil] at hP hD
  replace hP : va_P G.1 smCl (sm_ws shC G [40, 50, 40, e3, e4] (bgM M6)) _ := hP
  replace hD : va_D A (sm_ws shC G [40, 50, 40, e3, e4] (bgM M6)) := hD
  refine W.eq (g2 := F0 m 129 ls []) rfl ?_
  refine lv_aload_n hx hb (show decode prog_1_method_8_code 129 = .ok (.aload_n 0, 1) by decide +kernel) rfl (lv_at hl 3 rfl) ?_
  refine hs_get (j := 59) (k := 7) (a := 2) (b := 0) (C := "TypedMill") (T := tF0) (nF := 9) hx hb hown hts hK hP rfl rfl rfl (by decide) (sm_mem1 466 (by decide +kernel) (by decide +kernel)) rfl (show decode prog_1_method_8_code 130 = .ok (.getfield 67, 3) by decide +kernel) ?_
  refine W.eq (g2 := F0 m 133 ls [.ref (sm_ad G (39 + 1))]) rfl ?_
  refine hs_get (j := 39) (k := 6) (a := 0) (b := 0) (C := "TypedMill$Code") (T := tF8) (nF := 16) hx hb hown hts hK hP rfl rfl rfl (by decide) (sm_mem1 406 (by decide +kernel) (by decide +kernel)) rfl (show decode prog_1_method_8_code 133 = .ok (.getfield 145, 3) by decide +kernel) ?_
  exact W.iret hx hb hrt (fun t ht hW => ⟨rfl, ⟨by rw [ht]; exact hP, va_K.moved hW.alike hK, hD⟩, hS.F ht⟩) hS.2.2 (by decide +kernel)
