/-! the law from its entry -/
set_option maxRecDepth 100000 in
set_option maxHeartbeats 16000000 in
theorem whole_from {p : Program} {e : Env} {s : State} {m : MethodId} {below : List Frame} {meth : Method} {c : Code} (l : Launch) (hfl : l.flags = flags0) {b L : Nat} {xs : Nat → Int32} (hL : L ≤ 3072) (C0 : lw_At p s m meth c b L xs) {Rel : Nat → sm_D → sm_M → sm_M → Prop}
    (hR0 : ∀ Mc Mm, cls0 Mc → mdl0 Mm → Rel 0 [40, 50, 40, 0, 0] Mc Mm) (hRD : ∀ j D Mc Mm, Rel j D Mc Mm → ∃ d0 d1 d2 d3 d4, D = [d0, d1, d2, d3, d4] ∧ [d0] ∈ gC)
    (hRS : ∀ j d0 d1 d2 d3 d4 Mc Mm, 6 * j + 6 ≤ L → Rel j [d0, d1, d2, d3, d4] Mc Mm → lw_step ((xs (6 * j) &&& 15).toNatClampNeg) (xs (6 * j + 1)) (xs (6 * j + 2)) (xs (6 * j + 3)) (xs (6 * j + 4)) (xs (6 * j + 5)) d0 d1 d2 d3 d4 Mc Mm (Rel (j + 1))) :
    W p l e room_1 s m #[Value.ref b] below meth c s.heap [] 0 0 (lw_Z below #[Value.ref b] s) (entryFrame m ([Value.ref b] : List Value).toArray 7) := by
  obtain ⟨hx, hb, hr, hml, hown, hts0, hX, hbl, hlocks, hgv⟩ := C0
  replace hown : s.vm.findClass "TypedMillLaw" = some m.cls := hown
  have hts : ∀ w ∈ smT, w.before #[Value.ref b] s = true := fun w hw => hts0 w (smT_in hw)
  have hs := flat_of_before _ hgv
  obtain ⟨aF, aP, hst⟩ := st_sta hs hts0
  have hxk := st_xk hs hts0
  obtain ⟨D, cI, cZ, hK⟩ := st_K hts
  have hn1 : va_Nw (.methodLinkNest "TypedMill" 18 ⟨"TypedMill$Expressions", "<init>", "()V"⟩ "TypedMill") s := va_Nw.of rfl (hts0 _ (List.mem_of_getElem? (i := 188) (by decide +kernel)))
  have hn2 : va_Nw (.methodLinkNest "TypedMill" 59 ⟨"TypedMill$Machine", "<init>", "()V"⟩ "TypedMill") s := va_Nw.of rfl (hts0 _ (List.mem_of_getElem? (i := 346) (by decide +kernel)))
  have hA : ∀ q, s.heap.size ≤ q → s.heap.size ≤ q := fun _ h => h
  have hS : va_S (fun q => s.heap.size ≤ q) s.heap s.heap [] := va_S.rf
  have hP : va_P D smCl [] s.heap := fun k q hq => by simp at hq
  have hD : va_D (fun q => s.heap.size ≤ q) [] := ⟨fun i j x y hi => by simp at hi, fun k q hq => by simp at hq⟩
  have hl := lv_entry ([.ref b]) (n := 7) (Nat.le_of_ble_eq_true rfl)
  rw [lg_entry_eq]
  generalize (lg_sl ([.ref b]) ++ List.replicate (7 - (lg_sl ([.ref b])).length) Slot.unset).toArray = ls at hl ⊢
  replace hl : lv_has ls 7 [(0, .ref b)] := hl
  refine va_new (ci := 0) (fs := [.null, .null, .null, .null, .null, .null, .null, .null, .null]) hx hb hts (sm_vCls 0 "TypedMill" tF0 9 rfl).1 tY0 tY0_ok hown (hts _ (sm_mem1 122 (by decide +kernel) (by decide +kernel))) (hts _ (sm_mem1 123 (by decide +kernel) (by decide +kernel))) (hts _ (sm_mem1 103 (by decide +kernel) (by decide +kernel))) hK hP hD hS hA rfl (by decide +kernel) (Nat.le_of_ble_eq_true rfl) (Nat.le_of_ble_eq_true rfl) (show decode code 0 = .ok (.new 8, 3) by decide +kernel) (fun o H hP hD hS => ?_)
  refine lv_dup hx hb (show decode code 3 = .ok (.dup, 1) by decide +kernel) rfl ?_
  refine W.eq (g2 := F0 m 4 ls (([] : List Value).reverse ++ .ref o :: [.ref o])) rfl ?_
  refine nk_call (S := (Nat → Nat) × sm_M) (own := "TypedMillLaw") (w0 := []) (ci := 0) (q := o) (zs := [.null, .null, .null, .null, .null, .null, .null, .null, .null]) (As := []) (ixC := 24) (nL := 7) (ke := fun u => sm_ws shC (D, cI, cZ, u.1) [40, 50, 40, 0, 0] u.2) hx hb hml hown hts hK hl.1 hst hP hD hS hA (sm_mem1 103 (by decide +kernel) (by decide +kernel)) (sm_mem1 126 (by decide +kernel) (by decide +kernel)) (sm_mem1 125 (by decide +kernel) (by decide +kernel)) rfl (Or.inl (sm_mem1 124 (by decide +kernel) (by decide +kernel))) ⟨by decide +kernel, by decide +kernel, by decide +kernel⟩ rfl rfl ⟨Nat.le_of_ble_eq_true rfl, Nat.le_of_ble_eq_true rfl⟩ (Nat.le_of_ble_eq_true rfl) (Nat.le_of_ble_eq_true rfl) (kt_TypedMill l D cI cZ aF aP o H.size) (fun a U g mk h => ⟨h.1, h.2.1, h.2.2.1, va_K.moved (u := U) (U := U.calling g mk a) (Vm.Alike.refl U.vm) h.2.2.2.1, h.2.2.2.2.1, cs_sta.moved (u := U) (U := U.calling g mk a) (Vm.Alike.refl U.vm) h.2.2.2.2.2.1, va_Nw.same (u := U) (U := U.calling g mk a) rfl rfl h.2.2.2.2.2.2.1, va_Nw.same (u := U) (U := U.calling g mk a) rfl rfl h.2.2.2.2.2.2.2⟩) (fun U hU hW h1 h2 h3 h4 => ⟨rfl, by rw [hU], h1, h2, h3, h4, va_Nw.warmM hW hn1, va_Nw.warmM hW hn2⟩) (Nat.le_of_ble_eq_true rfl) (show decode code 4 = .ok (.invokespecial 24, 3) by decide +kernel) ?_
  rintro ⟨adC, Mc⟩ H locs ⟨hF, hPa, h60, hcls⟩ hP hD hS
  rw [List.nil_append] at hP hD
  replace hP : va_P D smCl (sm_ws shC (D, cI, cZ, adC) [40, 50, 40, 0, 0] Mc) H := hP
  replace hD : va_D (fun q => s.heap.size ≤ q) (sm_ws shC (D, cI, cZ, adC) [40, 50, 40, 0, 0] Mc) := hD
  replace h60 : adC 60 = o := h60
  refine W.eq (g2 := F0 m 7 ls [.ref o]) rfl ?_
  refine lv_astore_n hx hb (show decode code 7 = .ok (.astore_n 1, 1) by decide +kernel) rfl hl (by decide) rfl ?_
  clear hl
  intro ls hl
  replace hl : lv_has ls 7 [(1, .ref o), (0, .ref b)] := hl
  refine W.eq (g2 := F0 m 8 ls []) rfl ?_
  refine va_new (ci := 9) (fs := kw_fs) hx hb hts (sm_vCls 9 "TypedMillModel" tF9 84 rfl).1 tY9 tY9_ok hown (hts _ (sm_mem1 1011 (by decide +kernel) (by decide +kernel))) (hts _ (sm_mem1 1012 (by decide +kernel) (by decide +kernel))) (hts _ (sm_mem1 113 (by decide +kernel) (by decide +kernel))) hK hP hD hS hA rfl (by decide +kernel) (Nat.le_of_ble_eq_true rfl) (Nat.le_of_ble_eq_true rfl) (show decode code 8 = .ok (.new 25, 3) by decide +kernel) (fun o2 H hP hD hS => ?_)
  refine lv_dup hx hb (show decode code 11 = .ok (.dup, 1) by decide +kernel) rfl ?_
  refine W.eq (g2 := F0 m 12 ls (([] : List Value).reverse ++ .ref o2 :: [.ref o2])) rfl ?_
  refine nk_call (S := List Nat × sm_M) (own := "TypedMillLaw") (w0 := sm_ws shC (D, cI, cZ, adC) [40, 50, 40, 0, 0] Mc) (ci := 9) (q := o2) (zs := kw_fs) (As := []) (ixC := 27) (nL := 7) (ke := fun u => sm_ws shM (cs_G D cI cZ aF aP (0 :: o2 :: u.1)) [] u.2) hx hb hml hown hts hK hl.1 hst hP hD hS hA (sm_mem1 113 (by decide +kernel) (by decide +kernel)) (sm_mem1 1015 (by decide +kernel) (by decide +kernel)) (sm_mem1 1014 (by decide +kernel) (by decide +kernel)) rfl (Or.inl (sm_mem1 1013 (by decide +kernel) (by decide +kernel))) ⟨by decide +kernel, by decide +kernel, by decide +kernel⟩ rfl rfl ⟨Nat.le_of_ble_eq_true rfl, Nat.le_of_ble_eq_true rfl⟩ (Nat.le_of_ble_eq_true rfl) (Nat.le_of_ble_eq_true rfl) (kt_Model l D cI cZ aF aP o2 H.size) (fun a U g mk h => ⟨h.1, h.2.1, h.2.2.1, va_K.moved (u := U) (U := U.calling g mk a) (Vm.Alike.refl U.vm) h.2.2.2.1, h.2.2.2.2.1, cs_sta.moved (u := U) (U := U.calling g mk a) (Vm.Alike.refl U.vm) h.2.2.2.2.2⟩) (fun U hU hW h1 h2 h3 h4 => ⟨rfl, by rw [hU], h1, h2, h3, h4⟩) (Nat.le_of_ble_eq_true rfl) (show decode code 12 = .ok (.invokespecial 27, 3) by decide +kernel) ?_
  rintro ⟨qs, Mm⟩ H locs ⟨hqs, hmdl⟩ hP hD hS
  obtain ⟨adM, hadM⟩ : ∃ adM, cs_ad aF aP (0 :: o2 :: qs) = adM := ⟨_, rfl⟩
  have hGm : sm_sta smSa (D, cI, cZ, adM) (fun q => s.heap.size ≤ q) s s.heap := by rw [← hadM]; exact hst.sm D cI cZ (0 :: o2 :: qs)
  have h1m : adM 1 = o2 := by rw [← hadM]; rfl
  replace hP : va_P D smCl (sm_ws shC (D, cI, cZ, adC) [40, 50, 40, 0, 0] Mc ++ sm_ws shM (D, cI, cZ, adM) [] Mm) H := by rw [← hadM]; exact hP
  replace hD : va_D (fun q => s.heap.size ≤ q) (sm_ws shC (D, cI, cZ, adC) [40, 50, 40, 0, 0] Mc ++ sm_ws shM (D, cI, cZ, adM) [] Mm) := by rw [← hadM]; exact hD
  refine W.eq (g2 := F0 m 15 ls [.ref o2]) rfl ?_
  refine lv_astore_n hx hb (show decode code 15 = .ok (.astore_n 2, 1) by decide +kernel) rfl hl (by decide) rfl ?_
  clear hl
  intro ls hl
  replace hl : lv_has ls 7 [(2, .ref o2), (1, .ref o), (0, .ref b)] := hl
  refine lv_iconst (v := 1) hx hb (show decode code 16 = .ok (.iconst 1, 1) by decide +kernel) (by decide) ?_
  refine va_newa (ty := .long) (a0 := (1, .inr (.inl (fun _ => 0)))) hx hb (hts _ (sm_mem1 1560 (by decide +kernel) (by decide +kernel))) rfl hK hP hD hS hA (fun cA => by rw [vp_cell_l]; rfl) (by decide) (by decide) (by decide) (Nat.le_of_ble_eq_true rfl) (Nat.le_of_ble_eq_true rfl) (show decode code 17 = .ok (.newarray .long, 2) by decide +kernel) (fun ao cL H hKL hP hD hS => ?_)
  refine W.eq (g2 := F0 m 19 ls [.ref ao]) rfl ?_
  refine lv_astore_n hx hb (show decode code 19 = .ok (.astore_n 3, 1) by decide +kernel) rfl hl (by decide) rfl ?_
  clear hl
  intro ls hl
  replace hl : lv_has ls 7 [(3, .ref ao), (2, .ref o2), (1, .ref o), (0, .ref b)] := hl
  refine lv_iconst (v := 0) hx hb (show decode code 20 = .ok (.iconst 0, 1) by decide +kernel) (by decide) ?_
  refine lv_istore hx hb (show decode code 21 = .ok (.istore 4, 2) by decide +kernel) hl (by decide) rfl ?_
  clear hl
  intro ls hl
  replace hl : lv_has ls 7 [(4, .int 0), (3, .ref ao), (2, .ref o2), (1, .ref o), (0, .ref b)] := hl
  rw [List.append_assoc] at hP hD
  have hGc : sm_sta smSa (D, cI, cZ, adC) (fun q => s.heap.size ≤ q) s s.heap := cs_stag hst hF hPa
  exact lw_loop hx hb hr hlocks hml hown hts hfl hX hbl hKL hGc hGm hxk hL hRD hRS 512 0 (by omega) (by omega) (fun _ => 0) [40, 50, 40, 0, 0] Mc Mm H locs ls (hR0 Mc Mm hcls hmdl) hP hD hS (by rw [h60, h1m]; exact lv_sub hl [4, 3, 2, 1, 0] rfl)
