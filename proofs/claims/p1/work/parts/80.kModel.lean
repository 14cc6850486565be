/-! the constructor of the reference -/
set_option maxRecDepth 100000 in
set_option maxHeartbeats 16000000 in
theorem kt_Model (l : Launch) (D : va_G) (cI cZ : ClassId) (aF aP o sz : Nat) : Met l ⟨"TypedMillModel", "<init>", "()V"⟩ (Cond.code ⟨"TypedMillModel", "<init>", "()V"⟩ prog_11_method_1_code 1 none :: smT) ({ frames := 4, cells := 59, slots := 30970, locals := 300 }) (va_Pc [.ref o] (fun U => U.heap.size = sz ∧ va_P D smCl (kw_M o) U.heap ∧ va_K D smCl [(cI, .int), (cZ, .boolean)] U ∧ va_D (fun _ => True) (kw_M o) ∧ cs_sta aF aP (va_A (kw_M o) sz) U U.heap)) (va_Qv (fun u : List Nat × sm_M => u.1.length = 59 ∧ mdl0 u.2) (fun u t => va_P D smCl (sm_ws shM (cs_G D cI cZ aF aP (0 :: o :: u.1)) [] u.2) t.heap ∧ va_K D smCl [(cI, .int), (cZ, .boolean)] t ∧ va_D (va_A (kw_M o) sz) (sm_ws shM (cs_G D cI cZ aF aP (0 :: o :: u.1)) [] u.2)) (va_A (kw_M o) sz)) 59 30970 (va_A (kw_M o) sz) := by
  refine Met.ofW (cc := prog_11_method_1_code) (maxL := 1) (ret := none) (ws' := smT) (by decide) rfl ?_
  intro p e s m args below meth c s₁ B hml hv
  obtain ⟨rfl, hsz, hP, hK, hD0, hst⟩ := hv
  have hx := B.exec
  have hb := B.bytes
  have hr := B.returns
  have hts0 := atoms_spec (ws := Cond.code ⟨"TypedMillModel", "<init>", "()V"⟩ prog_11_method_1_code 1 none :: smT) B.pre
  have hts : ∀ w ∈ smT, w.before _ s = true := fun w hw => hts0 w (List.mem_cons_of_mem _ hw)
  have hown : s.vm.findClass "TypedMillModel" = some m.cls := findClass_of_methodNamed B.named
  have hlocks := B.notSynchronized
  have hin : meth.name = "<init>" := (name_of_methodNamed B.named B.method).1
  subst hsz
  have hD := hD0.self (sz := s.heap.size)
  generalize hAe : va_A (kw_M o) s.heap.size = A at hD hst ⊢
  have hA : ∀ q : Nat, s.heap.size ≤ q → A q := fun q h => by rw [← hAe]; exact Or.inr h
  have hS : va_S A s.heap s.heap [] := va_S.rf
  have hP : va_P D smCl [(o, .inr (9, kw_fs))] s.heap := hP
  have hD : va_D A [(o, .inr (9, kw_fs))] := hD
  have hl := lv_entry ([.ref o]) (n := 1) (Nat.le_of_ble_eq_true rfl)
  rw [lg_entry_eq]
  generalize (lg_sl ([.ref o]) ++ List.replicate (1 - (lg_sl ([.ref o])).length) Slot.unset).toArray = ls at hl ⊢
  have hl : lv_has ls 1 [(0, .ref o)] := hl
  have X : cs_Cx prog_11_method_1_code "TypedMillModel" D cI cZ A s.heap p s m _ meth c := ⟨hx, hb, hts, hown, hK, hin, hA⟩
  refine lv_aload_n hx hb (show decode prog_11_method_1_code 0 = .ok (.aload_n 0, 1) by decide +kernel) rfl (lv_at hl 0 rfl) ?_
  refine W.objInit hx hb hown (hts (.methodLink "TypedMillModel" 1 objectInit) (sm_mem1 1016 (by decide +kernel) (by decide +kernel))) (hts (.instanceMethod objectInit) (sm_mem1 128 (by decide +kernel) (by decide +kernel))) (hts (.code objectInit ⟨#[0xb1]⟩ 1 none) (sm_mem1 129 (by decide +kernel) (by decide +kernel))) rfl (by rw [hml]; exact hl.1) rfl (show decode prog_11_method_1_code 1 = .ok (.invokespecial 1, 3) by decide +kernel) (Nat.le_of_ble_eq_true rfl) (Nat.le_of_ble_eq_true rfl) ?_
  refine W.eq (g2 := F0 m 4 ls []) rfl ?_
  refine ca_run (pe := 506) (ci := 9) (nF := 84) (C := "TypedMillModel") (T := tF9) (by decide) rfl (sm_mem1 185 (by decide +kernel) (by decide +kernel)) (sm_mem1 327 (by decide +kernel) (by decide +kernel)) X (lv_at hl 0 rfl) kw_L 4 0 0 s.heap [] kw_fs [] kw_Lok kw_Lch rfl hP hD hS (Nat.le_of_ble_eq_true rfl) (by rw [kw_Lsum]; exact Nat.le_of_ble_eq_true rfl) ?_
  intro qs H locs hq hP hD hS
  rw [show 0 + kw_L.length = 59 from rfl, show 0 + ca_sum kw_L = 30970 by rw [kw_Lsum]]
  obtain ⟨G, hGe⟩ : ∃ G : sm_G, cs_G D cI cZ aF aP (0 :: o :: qs) = G := ⟨_, rfl⟩
  rw [← ca_eqM hq hGe] at hP hD
  obtain ⟨M1, hj, hm1, hm2, hm3⟩ := r_find_first (D := [])
  have hG : sm_sta smSa G A s s.heap := by rw [← hGe]; exact hst.sm D cI cZ (0 :: o :: qs)
  have e1 : G.1 = D := by rw [← hGe]
  have eP : va_P G.1 smCl (sm_ws shM G [] (fun _ _ => 0)) H := by rw [e1]; exact hP
  have eD : va_D A (sm_ws shM G [] (fun _ _ => 0)) := hD
  have eK : va_K G.1 smCl (sm_tys G) s := by rw [← hGe]; exact hK
  have eo : sm_ad G 1 = o := by rw [← hGe]; rfl
  have hl0 : ls[0]? = some (.val (.ref (sm_ad G (0 + 1)))) := by rw [show sm_ad G (0 + 1) = o from eo]; exact lv_at hl 0 rfl
  clear hP hD
  refine lv_aload_n hx hb (show decode prog_11_method_1_code 506 = .ok (.aload_n 0, 1) by decide +kernel) rfl hl0 ?_
  refine hs_get (j := 0) (k := 8) (a := 1) (b := 7) (C := "TypedMillModel") (T := tF9) (nF := 84) hx hb hown hts eK eP rfl rfl rfl (by decide) (sm_mem1 1037 (by decide +kernel) (by decide +kernel)) rfl (show decode prog_11_method_1_code 507 = .ok (.getfield 25, 3) by decide +kernel) ?_
  refine lv_iconst (v := 0) hx hb (show decode prog_11_method_1_code 510 = .ok (.iconst (0), 1) by decide +kernel) (by decide) ?_
  refine lv_aload_n hx hb (show decode prog_11_method_1_code 511 = .ok (.aload_n 0, 1) by decide +kernel) rfl hl0 ?_
  refine lv_iconst (v := 0) hx hb (show decode prog_11_method_1_code 512 = .ok (.iconst (0), 1) by decide +kernel) (by decide) ?_
  refine lv_iconst (v := -1) hx hb (show decode prog_11_method_1_code 513 = .ok (.iconst (-1), 1) by decide +kernel) (by decide) ?_
  refine lv_iconst (v := -1) hx hb (show decode prog_11_method_1_code 514 = .ok (.iconst (-1), 1) by decide +kernel) (by decide) ?_
  refine lv_iconst (v := -1) hx hb (show decode prog_11_method_1_code 515 = .ok (.iconst (-1), 1) by decide +kernel) (by decide) ?_
  refine W.eq (g2 := F0 m 516 ls ((([.int 0, .int (-1), .int (-1), .int (-1)] : List Value).map (sm_cz (sm_ad G))).reverse ++ .ref (sm_ad G (0 + 1)) :: [.int 0, .ref (sm_ad G (6 + 1))])) rfl ?_
  refine wc_V (wr := []) (d := 1) (ix := 188) (j := 0) hx hb hml hown hts (m18 hj) pq18 (sm_mem1 1017 (by decide +kernel) (by decide +kernel)) (sm_mem1 1019 (by decide +kernel) (by decide +kernel)) (sm_mem1 51 (by decide +kernel) (by decide +kernel)) (T := tF9) (N := 84) rfl rfl eK (by rw [List.append_nil]; exact eP) (by rw [List.append_nil]; exact eD) hS hA hG (Nat.le_of_ble_eq_true rfl) (Nat.le_of_ble_eq_true rfl) (Nat.le_of_ble_eq_true rfl) (Nat.le_of_ble_eq_true rfl) hl.1 rfl (Nat.le_of_ble_eq_true rfl) (by decide +kernel) (fun H locs hP hD hS => ?_)
  rw [List.append_nil] at hP hD
  refine W.eq (g2 := F0 m 519 ls [.int 0, .int 0, .ref (sm_ad G (6 + 1))]) rfl ?_
  refine hs_ast (j := 6) (n := 30) hx hb eK hP hD hS rfl (vp_in_iff.mpr (by decide)) (show decode prog_11_method_1_code 519 = .ok (.iastore, 1) by decide +kernel) (fun H locs hP hD hS => ?_)
  refine lv_aload_n hx hb (show decode prog_11_method_1_code 520 = .ok (.aload_n 0, 1) by decide +kernel) rfl hl0 ?_
  refine lv_iconst (v := 1) hx hb (show decode prog_11_method_1_code 521 = .ok (.iconst (1), 1) by decide +kernel) (by decide) ?_
  refine hs_put (j := 0) (k := 7) (b := 0) (C := "TypedMillModel") (T := tF9) (nF := 84) hx hb hown hts eK hP hD hS rfl rfl rfl rfl (by decide) (sm_mem1 1036 (by decide +kernel) (by decide +kernel)) rfl rfl (by decide +kernel) (show decode prog_11_method_1_code 522 = .ok (.putfield 192, 3) by decide +kernel) (fun H locs hP hD hS => ?_)
  refine lv_aload_n hx hb (show decode prog_11_method_1_code 525 = .ok (.aload_n 0, 1) by decide +kernel) rfl hl0 ?_
  refine hs_get (j := 0) (k := 10) (a := 1) (b := 9) (C := "TypedMillModel") (T := tF9) (nF := 84) hx hb hown hts eK hP rfl rfl rfl (by decide) (sm_mem1 1039 (by decide +kernel) (by decide +kernel)) rfl (show decode prog_11_method_1_code 526 = .ok (.getfield 31, 3) by decide +kernel) ?_
  refine lv_iconst (v := 0) hx hb (show decode prog_11_method_1_code 529 = .ok (.iconst (0), 1) by decide +kernel) (by decide) ?_
  refine lv_iconst (v := -1) hx hb (show decode prog_11_method_1_code 530 = .ok (.iconst (-1), 1) by decide +kernel) (by decide) ?_
  refine W.eq (g2 := F0 m 531 ls [.int (-1), .int 0, .ref (sm_ad G (8 + 1))]) rfl ?_
  refine hs_ast (j := 8) (n := 30) hx hb eK hP hD hS rfl (vp_in_iff.mpr (by decide)) (show decode prog_11_method_1_code 531 = .ok (.iastore, 1) by decide +kernel) (fun H locs hP hD hS => ?_)
  refine lv_aload_n hx hb (show decode prog_11_method_1_code 532 = .ok (.aload_n 0, 1) by decide +kernel) rfl hl0 ?_
  refine hs_get (j := 0) (k := 11) (a := 1) (b := 10) (C := "TypedMillModel") (T := tF9) (nF := 84) hx hb hown hts eK hP rfl rfl rfl (by decide) (sm_mem1 1040 (by decide +kernel) (by decide +kernel)) rfl (show decode prog_11_method_1_code 533 = .ok (.getfield 34, 3) by decide +kernel) ?_
  refine lv_iconst (v := 0) hx hb (show decode prog_11_method_1_code 536 = .ok (.iconst (0), 1) by decide +kernel) (by decide) ?_
  refine lv_iconst (v := -1) hx hb (show decode prog_11_method_1_code 537 = .ok (.iconst (-1), 1) by decide +kernel) (by decide) ?_
  refine W.eq (g2 := F0 m 538 ls [.int (-1), .int 0, .ref (sm_ad G (9 + 1))]) rfl ?_
  refine hs_ast (j := 9) (n := 30) hx hb eK hP hD hS rfl (vp_in_iff.mpr (by decide)) (show decode prog_11_method_1_code 538 = .ok (.iastore, 1) by decide +kernel) (fun H locs hP hD hS => ?_)
  refine lv_aload_n hx hb (show decode prog_11_method_1_code 539 = .ok (.aload_n 0, 1) by decide +kernel) rfl hl0 ?_
  refine hs_get (j := 0) (k := 12) (a := 1) (b := 11) (C := "TypedMillModel") (T := tF9) (nF := 84) hx hb hown hts eK hP rfl rfl rfl (by decide) (sm_mem1 1041 (by decide +kernel) (by decide +kernel)) rfl (show decode prog_11_method_1_code 540 = .ok (.getfield 37, 3) by decide +kernel) ?_
  refine lv_iconst (v := 0) hx hb (show decode prog_11_method_1_code 543 = .ok (.iconst (0), 1) by decide +kernel) (by decide) ?_
  refine lv_iconst (v := -1) hx hb (show decode prog_11_method_1_code 544 = .ok (.iconst (-1), 1) by decide +kernel) (by decide) ?_
  refine W.eq (g2 := F0 m 545 ls [.int (-1), .int 0, .ref (sm_ad G (10 + 1))]) rfl ?_
  refine hs_ast (j := 10) (n := 30) hx hb eK hP hD hS rfl (vp_in_iff.mpr (by decide)) (show decode prog_11_method_1_code 545 = .ok (.iastore, 1) by decide +kernel) (fun H locs hP hD hS => ?_)
  refine lv_aload_n hx hb (show decode prog_11_method_1_code 546 = .ok (.aload_n 0, 1) by decide +kernel) rfl hl0 ?_
  refine W.eq (g2 := F0 m 547 ls ((([] : List Value).map (sm_cz (sm_ad G))).reverse ++ .ref (sm_ad G (0 + 1)) :: [])) rfl ?_
  refine wc_V (wr := []) (d := 0) (ix := 196) (j := 0) hx hb hml hown hts (m79 r_restart) pq79 (sm_mem1 1025 (by decide +kernel) (by decide +kernel)) (sm_mem1 1027 (by decide +kernel) (by decide +kernel)) (sm_mem1 53 (by decide +kernel) (by decide +kernel)) (T := tF9) (N := 84) rfl rfl eK (by rw [List.append_nil]; exact hP) (by rw [List.append_nil]; exact hD) hS hA hG (Nat.le_of_ble_eq_true rfl) (Nat.le_of_ble_eq_true rfl) (Nat.le_of_ble_eq_true rfl) (Nat.le_of_ble_eq_true rfl) hl.1 rfl (Nat.le_of_ble_eq_true rfl) (by decide +kernel) (fun H locs hP hD hS => ?_)
  rw [List.append_nil] at hP hD
  refine W.eq (g2 := F0 m 550 ls []) rfl ?_
  subst hGe
  exact W.vret hx hb hr (fun t ht hW => ⟨⟨(qs, _), rfl, ⟨hq, M1, hm1, hm2, hm3, rfl⟩, by rw [ht]; exact hP, va_K.moved hW.alike hK, hD⟩, hS.F ht⟩) hS.2.2 (by decide +kernel)
