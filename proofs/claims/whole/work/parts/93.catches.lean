/-! the law's cases with a catch: by program -/
theorem lc_at {Gc Gm : sm_G} {cL : ClassId} {ao : Nat} {f : Nat → Int64} {D : sm_D} {M Mm : sm_M} : (sm_ws shC Gc D M ++ (sm_ws shM Gm [] Mm ++ lc_o cL ao f))[120]? = some (ao, Sum.inl (cL, 1, .inr (.inl f))) := by
  rw [List.getElem?_append_right (by rw [sm_ws_len]; decide), sm_ws_len, List.getElem?_append_right (by rw [sm_ws_len]; decide), sm_ws_len]
  rfl
theorem lc_cmp {f : Nat → Int64} {v : Int64} : lg_cmp (vp_updL f 0 v (0 : Int32).toNatClampNeg) v = 0 := by
  rw [show vp_updL f 0 v (0 : Int32).toNatClampNeg = v from rfl]
  simp [lg_cmp]
set_option maxRecDepth 100000 in
set_option maxHeartbeats 16000000 in
theorem lw_c4 {p : Program} {l : Launch} {e : Env} {s : State} {m : MethodId} {below : List Frame} {meth : Method} {c : Code} {Q : State → Prop} {A : Nat → Prop} {b L n ao : Nat} {xs : Nat → Int32} {Dg : va_G} {cI cZ cL : ClassId} {adC adM : Nat → Nat} {cells slots : Nat} {f : Nat → Int64} {d0 d1 d2 d3 d4 : Nat} {Mc Mm : sm_M} {H : Heap} {locs : List Loc} {ls : Array Slot} {P : sm_D → sm_M → sm_M → Prop} (hx : p.tables.exec = Jvm.exec) (hb : c.code = code) (hml : c.maxLocals = 7) (hown : s.vm.findClass "TypedMillLaw" = some m.cls) (hts : ∀ w ∈ smT, w.before #[Value.ref b] s = true) (hfl : l.flags = flags0) (hX : va_X b L xs s s.heap) (hbl : b < s.heap.size) (hbA : ¬ A b) (hA : ∀ q, s.heap.size ≤ q → A q) (hKL : va_K Dg smCl (lh_tys (Dg, cI, cZ, adC) cL) s) (hGc : sm_sta smSa (Dg, cI, cZ, adC) A s s.heap) (hGm : sm_sta smSa (Dg, cI, cZ, adM) A s s.heap) (hxk : xt_K A s s.heap) (hn : n + 6 ≤ L) (hL : L ≤ 3072) (hd0 : [d0] ∈ gC) (hce : cells + 1 ≤ 601024) (hsl : slots + 6 ≤ 7293034) (hP : va_P Dg smCl (sm_ws shC (Dg, cI, cZ, adC) [d0, d1, d2, d3, d4] Mc ++ (sm_ws shM (Dg, cI, cZ, adM) [] Mm ++ lc_o cL ao f)) H) (hD : va_D A (sm_ws shC (Dg, cI, cZ, adC) [d0, d1, d2, d3, d4] Mc ++ (sm_ws shM (Dg, cI, cZ, adM) [] Mm ++ lc_o cL ao f))) (hS : va_S A s.heap H locs) (hl : lv_has ls 7 [(0, .ref b), (1, .ref (adC 60)), (2, .ref (adM 1)), (3, .ref ao), (4, .int (nI n))]) (kk : lc_go p l e s m below meth c Q A b n ao Dg cI cZ cL adC adM (cells + 1) (slots + 6) 724 P) (st : lc_ev (xs (n + 1)) [d0, d1, d2, d3, d4] Mc Mm P) : W p l e room_1 s m #[Value.ref b] below meth c H locs cells slots Q (F0 m 316 ls []) := by
  obtain ⟨bb, k, Mm1, Mm2, g1, g2, hroad⟩ := st
  rcases hroad with ⟨rfl, M1, h1, hp⟩ | ⟨rfl, r1, t, M1, M2, h1, hr1, h2, ht, hp⟩ | ⟨rfl, r1, v, M1, M2, M3, h1, hr1, h2, h3, ho, hp⟩ | ⟨rfl, r1, M1, M2, M3, h1, hr1, h2, h3, ho, hp⟩
  · refine lv_aload_n hx hb (show decode code 316 = .ok (.aload_n 1, 1) by decide +kernel) rfl (lv_at hl 1 rfl) ?_
    refine lc_arg (n := n) (j := 1) (jc := 1) (pc := 317) hx hb hX hbl hbA hS (lv_at hl 0 rfl) (lv_at hl 4 rfl) (by omega) hL (by decide) (by decide +kernel) (by decide +kernel) (by decide +kernel) (by decide +kernel) (by decide +kernel) ?_
    refine lv_aload_n hx hb (show decode code 323 = .ok (.aload_n 3, 1) by decide +kernel) rfl (lv_at hl 3 rfl) ?_
    refine W.eq (g2 := F0 m 324 ls (([.ref (sm_ad (Dg, cI, cZ, adC) 60), .int (xs (n + 1)), .ref ao] : List Value).reverse ++ [])) rfl ?_
    refine lc_H (G := (Dg, cI, cZ, adC)) (k := 1) (ix := 47) (wm := sm_ws shM (Dg, cI, cZ, adM) [] Mm) hx hb hml hown hts (lh_ev1 l hfl (Dg, cI, cZ, adC) cL _ ao f h1) (sm_mem1 804 (by decide +kernel) (by decide +kernel)) (sm_mem1 802 (by decide +kernel) (by decide +kernel)) (sm_mem1 803 (by decide +kernel) (by decide +kernel)) (sm_mem1 102 (by decide +kernel) (by decide +kernel)) ⟨by decide +kernel, by decide +kernel, by decide +kernel⟩ hKL hP hD hS hA hGc hxk (Nat.le_of_ble_eq_true rfl) (Nat.le_of_ble_eq_true rfl) (by show cells + 1 ≤ 601024; omega) (by show slots + 6 * 1 ≤ 7293034; omega) hl.1 (Nat.le_of_ble_eq_true rfl) (show decode code 324 = .ok (.invokestatic 47, 3) by decide +kernel) (fun H locs hP hD hS => ?_)
    refine W.eq (g2 := F0 m 327 ls [.int 1]) rfl ?_
    refine lv_istore hx hb (show decode code 327 = .ok (.istore 5, 2) by decide +kernel) hl (by decide) rfl ?_
    clear hl
    intro ls hl
    replace hl : lv_has ls 7 [(5, .int 1), (0, .ref b), (1, .ref (adC 60)), (2, .ref (adM 1)), (3, .ref ao), (4, .int (nI n))] := hl
    refine W.eq (g2 := F0 m 329 ls []) rfl ?_
    refine lv_aload_n hx hb (show decode code 329 = .ok (.aload_n 2, 1) by decide +kernel) rfl (lv_at hl 3 rfl) ?_
    refine lc_arg (n := n) (j := 1) (jc := 1) (pc := 330) hx hb hX hbl hbA hS (lv_at hl 1 rfl) (lv_at hl 5 rfl) (by omega) hL (by decide) (by decide +kernel) (by decide +kernel) (by decide +kernel) (by decide +kernel) (by decide +kernel) ?_
    refine W.eq (g2 := F0 m 336 ls ((([.int (xs (n + 1))] : List Value).map (sm_cz (sm_ad (Dg, cI, cZ, adM)))).reverse ++ .ref (sm_ad (Dg, cI, cZ, adM) (0 + 1)) :: [])) rfl ?_
    refine lc_M (G := (Dg, cI, cZ, adM)) (wo := lc_o cL ao f) (d := 5) (ix := 52) hx hb hml hown hts (m38 g1) pq38 (sm_mem1 1329 (by decide +kernel) (by decide +kernel)) (sm_mem1 1330 (by decide +kernel) (by decide +kernel)) (sm_mem1 1331 (by decide +kernel) (by decide +kernel)) (T := tF9) (N := 84) rfl rfl (hKL.sub [0, 1] rfl) hP hD hS hA hGm (Nat.le_of_ble_eq_true rfl) (Nat.le_of_ble_eq_true rfl) (by show cells + 1 ≤ 601024; omega) (by show slots + 6 * 1 ≤ 7293034; omega) hl.1 rfl (Nat.le_of_ble_eq_true rfl) (show decode code 336 = .ok (.invokevirtual 52, 3) by decide +kernel) (fun H locs hP hD hS => ?_)
    refine W.eq (g2 := F0 m 339 ls [.int bb]) rfl ?_
    refine lv_istore hx hb (show decode code 339 = .ok (.istore 6, 2) by decide +kernel) hl (by decide) rfl ?_
    clear hl
    intro ls hl
    replace hl : lv_has ls 7 [(6, .int bb), (5, .int 1), (0, .ref b), (1, .ref (adC 60)), (2, .ref (adM 1)), (3, .ref ao), (4, .int (nI n))] := hl
    refine W.eq (g2 := F0 m 341 ls []) rfl ?_
    refine lv_aload_n hx hb (show decode code 341 = .ok (.aload_n 2, 1) by decide +kernel) rfl (lv_at hl 4 rfl) ?_
    refine W.eq (g2 := F0 m 342 ls ((([] : List Value).map (sm_cz (sm_ad (Dg, cI, cZ, adM)))).reverse ++ .ref (sm_ad (Dg, cI, cZ, adM) (0 + 1)) :: [])) rfl ?_
    refine lc_M (G := (Dg, cI, cZ, adM)) (wo := lc_o cL ao f) (d := 0) (ix := 53) hx hb hml hown hts (m15 g2) pq15 (sm_mem1 1282 (by decide +kernel) (by decide +kernel)) (sm_mem1 1283 (by decide +kernel) (by decide +kernel)) (sm_mem1 1284 (by decide +kernel) (by decide +kernel)) (T := tF9) (N := 84) rfl rfl (hKL.sub [0, 1] rfl) hP hD hS hA hGm (Nat.le_of_ble_eq_true rfl) (Nat.le_of_ble_eq_true rfl) (by show cells + 1 ≤ 601024; omega) (by show slots + 6 * 1 ≤ 7293034; omega) hl.1 rfl (Nat.le_of_ble_eq_true rfl) (show decode code 342 = .ok (.invokevirtual 53, 3) by decide +kernel) (fun H locs hP hD hS => ?_)
    refine W.eq (g2 := F0 m 345 ls [.int 1]) rfl ?_
    refine lv_iload hx hb (show decode code 345 = .ok (.iload 5, 2) by decide +kernel) (lv_at hl 1 rfl) ?_
    refine W.eq (g2 := F0 m 347 ls [.int 1, .int 1]) rfl ?_
    refine lv_icmp_eq hx hb (show decode code 347 = .ok (.if_icmp .eq 5, 3) by decide +kernel) (tgt := 352) (by decide) (fun _ => ?_) (fun h => absurd rfl h)
    refine W.eq (g2 := F0 m 352 ls []) rfl ?_
    refine lv_iload hx hb (show decode code 352 = .ok (.iload 5, 2) by decide +kernel) (lv_at hl 1 rfl) ?_
    refine W.eq (g2 := F0 m 354 ls [.int 1]) rfl ?_
    refine lv_if_ne hx hb (show decode code 354 = .ok (.ifCond .ne 15, 3) by decide +kernel) (tgt := 369) (by decide) (fun _ => ?_) (fun h => absurd h (by decide))
    refine W.eq (g2 := F0 m 369 ls []) rfl ?_
    refine lv_goto hx hb (show decode code 369 = .ok (.goto 355, 3) by decide +kernel) (tgt := 724) (by decide) ?_
    exact W.widen (by omega) (by omega) (kk f _ M1 Mm2 _ _ _ hp hP hD hS (lv_sub hl [2, 3, 4, 5, 6] rfl))
  · refine lv_aload_n hx hb (show decode code 316 = .ok (.aload_n 1, 1) by decide +kernel) rfl (lv_at hl 1 rfl) ?_
    refine lc_arg (n := n) (j := 1) (jc := 1) (pc := 317) hx hb hX hbl hbA hS (lv_at hl 0 rfl) (lv_at hl 4 rfl) (by omega) hL (by decide) (by decide +kernel) (by decide +kernel) (by decide +kernel) (by decide +kernel) (by decide +kernel) ?_
    refine lv_aload_n hx hb (show decode code 323 = .ok (.aload_n 3, 1) by decide +kernel) rfl (lv_at hl 3 rfl) ?_
    refine W.eq (g2 := F0 m 324 ls (([.ref (sm_ad (Dg, cI, cZ, adC) 60), .int (xs (n + 1)), .ref ao] : List Value).reverse ++ [])) rfl ?_
    refine lc_H (G := (Dg, cI, cZ, adC)) (k := 1) (ix := 47) (wm := sm_ws shM (Dg, cI, cZ, adM) [] Mm) hx hb hml hown hts (lh_ev2 l hfl (Dg, cI, cZ, adC) cL _ ao f h1 hr1 h2 ht) (sm_mem1 804 (by decide +kernel) (by decide +kernel)) (sm_mem1 802 (by decide +kernel) (by decide +kernel)) (sm_mem1 803 (by decide +kernel) (by decide +kernel)) (sm_mem1 102 (by decide +kernel) (by decide +kernel)) ⟨by decide +kernel, by decide +kernel, by decide +kernel⟩ hKL hP hD hS hA hGc hxk (Nat.le_of_ble_eq_true rfl) (Nat.le_of_ble_eq_true rfl) (by show cells + 1 ≤ 601024; omega) (by show slots + 6 * 1 ≤ 7293034; omega) hl.1 (Nat.le_of_ble_eq_true rfl) (show decode code 324 = .ok (.invokestatic 47, 3) by decide +kernel) (fun H locs hP hD hS => ?_)
    refine W.eq (g2 := F0 m 327 ls [.int 2]) rfl ?_
    refine lv_istore hx hb (show decode code 327 = .ok (.istore 5, 2) by decide +kernel) hl (by decide) rfl ?_
    clear hl
    intro ls hl
    replace hl : lv_has ls 7 [(5, .int 2), (0, .ref b), (1, .ref (adC 60)), (2, .ref (adM 1)), (3, .ref ao), (4, .int (nI n))] := hl
    refine W.eq (g2 := F0 m 329 ls []) rfl ?_
    refine lv_aload_n hx hb (show decode code 329 = .ok (.aload_n 2, 1) by decide +kernel) rfl (lv_at hl 3 rfl) ?_
    refine lc_arg (n := n) (j := 1) (jc := 1) (pc := 330) hx hb hX hbl hbA hS (lv_at hl 1 rfl) (lv_at hl 5 rfl) (by omega) hL (by decide) (by decide +kernel) (by decide +kernel) (by decide +kernel) (by decide +kernel) (by decide +kernel) ?_
    refine W.eq (g2 := F0 m 336 ls ((([.int (xs (n + 1))] : List Value).map (sm_cz (sm_ad (Dg, cI, cZ, adM)))).reverse ++ .ref (sm_ad (Dg, cI, cZ, adM) (0 + 1)) :: [])) rfl ?_
    refine lc_M (G := (Dg, cI, cZ, adM)) (wo := lc_o cL ao f) (d := 5) (ix := 52) hx hb hml hown hts (m38 g1) pq38 (sm_mem1 1329 (by decide +kernel) (by decide +kernel)) (sm_mem1 1330 (by decide +kernel) (by decide +kernel)) (sm_mem1 1331 (by decide +kernel) (by decide +kernel)) (T := tF9) (N := 84) rfl rfl (hKL.sub [0, 1] rfl) hP hD hS hA hGm (Nat.le_of_ble_eq_true rfl) (Nat.le_of_ble_eq_true rfl) (by show cells + 1 ≤ 601024; omega) (by show slots + 6 * 1 ≤ 7293034; omega) hl.1 rfl (Nat.le_of_ble_eq_true rfl) (show decode code 336 = .ok (.invokevirtual 52, 3) by decide +kernel) (fun H locs hP hD hS => ?_)
    refine W.eq (g2 := F0 m 339 ls [.int bb]) rfl ?_
    refine lv_istore hx hb (show decode code 339 = .ok (.istore 6, 2) by decide +kernel) hl (by decide) rfl ?_
    clear hl
    intro ls hl
    replace hl : lv_has ls 7 [(6, .int bb), (5, .int 2), (0, .ref b), (1, .ref (adC 60)), (2, .ref (adM 1)), (3, .ref ao), (4, .int (nI n))] := hl
    refine W.eq (g2 := F0 m 341 ls []) rfl ?_
    refine lv_aload_n hx hb (show decode code 341 = .ok (.aload_n 2, 1) by decide +kernel) rfl (lv_at hl 4 rfl) ?_
    refine W.eq (g2 := F0 m 342 ls ((([] : List Value).map (sm_cz (sm_ad (Dg, cI, cZ, adM)))).reverse ++ .ref (sm_ad (Dg, cI, cZ, adM) (0 + 1)) :: [])) rfl ?_
    refine lc_M (G := (Dg, cI, cZ, adM)) (wo := lc_o cL ao f) (d := 0) (ix := 53) hx hb hml hown hts (m15 g2) pq15 (sm_mem1 1282 (by decide +kernel) (by decide +kernel)) (sm_mem1 1283 (by decide +kernel) (by decide +kernel)) (sm_mem1 1284 (by decide +kernel) (by decide +kernel)) (T := tF9) (N := 84) rfl rfl (hKL.sub [0, 1] rfl) hP hD hS hA hGm (Nat.le_of_ble_eq_true rfl) (Nat.le_of_ble_eq_true rfl) (by show cells + 1 ≤ 601024; omega) (by show slots + 6 * 1 ≤ 7293034; omega) hl.1 rfl (Nat.le_of_ble_eq_true rfl) (show decode code 342 = .ok (.invokevirtual 53, 3) by decide +kernel) (fun H locs hP hD hS => ?_)
    refine W.eq (g2 := F0 m 345 ls [.int 2]) rfl ?_
    refine lv_iload hx hb (show decode code 345 = .ok (.iload 5, 2) by decide +kernel) (lv_at hl 1 rfl) ?_
    refine W.eq (g2 := F0 m 347 ls [.int 2, .int 2]) rfl ?_
    refine lv_icmp_eq hx hb (show decode code 347 = .ok (.if_icmp .eq 5, 3) by decide +kernel) (tgt := 352) (by decide) (fun _ => ?_) (fun h => absurd rfl h)
    refine W.eq (g2 := F0 m 352 ls []) rfl ?_
    refine lv_iload hx hb (show decode code 352 = .ok (.iload 5, 2) by decide +kernel) (lv_at hl 1 rfl) ?_
    refine W.eq (g2 := F0 m 354 ls [.int 2]) rfl ?_
    refine lv_if_ne hx hb (show decode code 354 = .ok (.ifCond .ne 15, 3) by decide +kernel) (tgt := 369) (by decide) (fun _ => ?_) (fun h => absurd h (by decide))
    refine W.eq (g2 := F0 m 369 ls []) rfl ?_
    refine lv_goto hx hb (show decode code 369 = .ok (.goto 355, 3) by decide +kernel) (tgt := 724) (by decide) ?_
    exact W.widen (by omega) (by omega) (kk f _ M2 Mm2 _ _ _ hp hP hD hS (lv_sub hl [2, 3, 4, 5, 6] rfl))
  · refine lv_aload_n hx hb (show decode code 316 = .ok (.aload_n 1, 1) by decide +kernel) rfl (lv_at hl 1 rfl) ?_
    refine lc_arg (n := n) (j := 1) (jc := 1) (pc := 317) hx hb hX hbl hbA hS (lv_at hl 0 rfl) (lv_at hl 4 rfl) (by omega) hL (by decide) (by decide +kernel) (by decide +kernel) (by decide +kernel) (by decide +kernel) (by decide +kernel) ?_
    refine lv_aload_n hx hb (show decode code 323 = .ok (.aload_n 3, 1) by decide +kernel) rfl (lv_at hl 3 rfl) ?_
    refine W.eq (g2 := F0 m 324 ls (([.ref (sm_ad (Dg, cI, cZ, adC) 60), .int (xs (n + 1)), .ref ao] : List Value).reverse ++ [])) rfl ?_
    refine lc_H (G := (Dg, cI, cZ, adC)) (k := 1) (ix := 47) (wm := sm_ws shM (Dg, cI, cZ, adM) [] Mm) hx hb hml hown hts (lh_ev3 l hfl (Dg, cI, cZ, adC) cL _ ao f h1 hr1 h2 h3 ho) (sm_mem1 804 (by decide +kernel) (by decide +kernel)) (sm_mem1 802 (by decide +kernel) (by decide +kernel)) (sm_mem1 803 (by decide +kernel) (by decide +kernel)) (sm_mem1 102 (by decide +kernel) (by decide +kernel)) ⟨by decide +kernel, by decide +kernel, by decide +kernel⟩ hKL hP hD hS hA hGc hxk (Nat.le_of_ble_eq_true rfl) (Nat.le_of_ble_eq_true rfl) (by show cells + 1 ≤ 601024; omega) (by show slots + 6 * 1 ≤ 7293034; omega) hl.1 (Nat.le_of_ble_eq_true rfl) (show decode code 324 = .ok (.invokestatic 47, 3) by decide +kernel) (fun H locs hP hD hS => ?_)
    refine W.eq (g2 := F0 m 327 ls [.int 3]) rfl ?_
    refine lv_istore hx hb (show decode code 327 = .ok (.istore 5, 2) by decide +kernel) hl (by decide) rfl ?_
    clear hl
    intro ls hl
    replace hl : lv_has ls 7 [(5, .int 3), (0, .ref b), (1, .ref (adC 60)), (2, .ref (adM 1)), (3, .ref ao), (4, .int (nI n))] := hl
    refine W.eq (g2 := F0 m 329 ls []) rfl ?_
    refine lv_aload_n hx hb (show decode code 329 = .ok (.aload_n 2, 1) by decide +kernel) rfl (lv_at hl 3 rfl) ?_
    refine lc_arg (n := n) (j := 1) (jc := 1) (pc := 330) hx hb hX hbl hbA hS (lv_at hl 1 rfl) (lv_at hl 5 rfl) (by omega) hL (by decide) (by decide +kernel) (by decide +kernel) (by decide +kernel) (by decide +kernel) (by decide +kernel) ?_
    refine W.eq (g2 := F0 m 336 ls ((([.int (xs (n + 1))] : List Value).map (sm_cz (sm_ad (Dg, cI, cZ, adM)))).reverse ++ .ref (sm_ad (Dg, cI, cZ, adM) (0 + 1)) :: [])) rfl ?_
    refine lc_M (G := (Dg, cI, cZ, adM)) (wo := lc_o cL ao f) (d := 5) (ix := 52) hx hb hml hown hts (m38 g1) pq38 (sm_mem1 1329 (by decide +kernel) (by decide +kernel)) (sm_mem1 1330 (by decide +kernel) (by decide +kernel)) (sm_mem1 1331 (by decide +kernel) (by decide +kernel)) (T := tF9) (N := 84) rfl rfl (hKL.sub [0, 1] rfl) hP hD hS hA hGm (Nat.le_of_ble_eq_true rfl) (Nat.le_of_ble_eq_true rfl) (by show cells + 1 ≤ 601024; omega) (by show slots + 6 * 1 ≤ 7293034; omega) hl.1 rfl (Nat.le_of_ble_eq_true rfl) (show decode code 336 = .ok (.invokevirtual 52, 3) by decide +kernel) (fun H locs hP hD hS => ?_)
    refine W.eq (g2 := F0 m 339 ls [.int bb]) rfl ?_
    refine lv_istore hx hb (show decode code 339 = .ok (.istore 6, 2) by decide +kernel) hl (by decide) rfl ?_
    clear hl
    intro ls hl
    replace hl : lv_has ls 7 [(6, .int bb), (5, .int 3), (0, .ref b), (1, .ref (adC 60)), (2, .ref (adM 1)), (3, .ref ao), (4, .int (nI n))] := hl
    refine W.eq (g2 := F0 m 341 ls []) rfl ?_
    refine lv_aload_n hx hb (show decode code 341 = .ok (.aload_n 2, 1) by decide +kernel) rfl (lv_at hl 4 rfl) ?_
    refine W.eq (g2 := F0 m 342 ls ((([] : List Value).map (sm_cz (sm_ad (Dg, cI, cZ, adM)))).reverse ++ .ref (sm_ad (Dg, cI, cZ, adM) (0 + 1)) :: [])) rfl ?_
    refine lc_M (G := (Dg, cI, cZ, adM)) (wo := lc_o cL ao f) (d := 0) (ix := 53) hx hb hml hown hts (m15 g2) pq15 (sm_mem1 1282 (by decide +kernel) (by decide +kernel)) (sm_mem1 1283 (by decide +kernel) (by decide +kernel)) (sm_mem1 1284 (by decide +kernel) (by decide +kernel)) (T := tF9) (N := 84) rfl rfl (hKL.sub [0, 1] rfl) hP hD hS hA hGm (Nat.le_of_ble_eq_true rfl) (Nat.le_of_ble_eq_true rfl) (by show cells + 1 ≤ 601024; omega) (by show slots + 6 * 1 ≤ 7293034; omega) hl.1 rfl (Nat.le_of_ble_eq_true rfl) (show decode code 342 = .ok (.invokevirtual 53, 3) by decide +kernel) (fun H locs hP hD hS => ?_)
    refine W.eq (g2 := F0 m 345 ls [.int 3]) rfl ?_
    refine lv_iload hx hb (show decode code 345 = .ok (.iload 5, 2) by decide +kernel) (lv_at hl 1 rfl) ?_
    refine W.eq (g2 := F0 m 347 ls [.int 3, .int 3]) rfl ?_
    refine lv_icmp_eq hx hb (show decode code 347 = .ok (.if_icmp .eq 5, 3) by decide +kernel) (tgt := 352) (by decide) (fun _ => ?_) (fun h => absurd rfl h)
    refine W.eq (g2 := F0 m 352 ls []) rfl ?_
    refine lv_iload hx hb (show decode code 352 = .ok (.iload 5, 2) by decide +kernel) (lv_at hl 1 rfl) ?_
    refine W.eq (g2 := F0 m 354 ls [.int 3]) rfl ?_
    refine lv_if_ne hx hb (show decode code 354 = .ok (.ifCond .ne 15, 3) by decide +kernel) (tgt := 369) (by decide) (fun _ => ?_) (fun h => absurd h (by decide))
    refine W.eq (g2 := F0 m 369 ls []) rfl ?_
    refine lv_goto hx hb (show decode code 369 = .ok (.goto 355, 3) by decide +kernel) (tgt := 724) (by decide) ?_
    exact W.widen (by omega) (by omega) (kk f _ M3 Mm2 _ _ _ hp hP hD hS (lv_sub hl [2, 3, 4, 5, 6] rfl))
  · refine lv_aload_n hx hb (show decode code 316 = .ok (.aload_n 1, 1) by decide +kernel) rfl (lv_at hl 1 rfl) ?_
    refine lc_arg (n := n) (j := 1) (jc := 1) (pc := 317) hx hb hX hbl hbA hS (lv_at hl 0 rfl) (lv_at hl 4 rfl) (by omega) hL (by decide) (by decide +kernel) (by decide +kernel) (by decide +kernel) (by decide +kernel) (by decide +kernel) ?_
    refine lv_aload_n hx hb (show decode code 323 = .ok (.aload_n 3, 1) by decide +kernel) rfl (lv_at hl 3 rfl) ?_
    refine W.eq (g2 := F0 m 324 ls (([.ref (sm_ad (Dg, cI, cZ, adC) 60), .int (xs (n + 1)), .ref ao] : List Value).reverse ++ [])) rfl ?_
    refine lc_H (G := (Dg, cI, cZ, adC)) (k := 0) (ix := 47) (wm := sm_ws shM (Dg, cI, cZ, adM) [] Mm) hx hb hml hown hts (lh_ev4 l (Dg, cI, cZ, adC) cL _ ao f h1 hr1 h2 h3 ho) (sm_mem1 804 (by decide +kernel) (by decide +kernel)) (sm_mem1 802 (by decide +kernel) (by decide +kernel)) (sm_mem1 803 (by decide +kernel) (by decide +kernel)) (sm_mem1 102 (by decide +kernel) (by decide +kernel)) ⟨by decide +kernel, by decide +kernel, by decide +kernel⟩ hKL hP hD hS hA hGc hxk (Nat.le_of_ble_eq_true rfl) (Nat.le_of_ble_eq_true rfl) (by show cells + 0 ≤ 601024; omega) (by show slots + 6 * 0 ≤ 7293034; omega) hl.1 (Nat.le_of_ble_eq_true rfl) (show decode code 324 = .ok (.invokestatic 47, 3) by decide +kernel) (fun H locs hP hD hS => ?_)
    refine W.eq (g2 := F0 m 327 ls [.int 0]) rfl ?_
    refine lv_istore hx hb (show decode code 327 = .ok (.istore 5, 2) by decide +kernel) hl (by decide) rfl ?_
    clear hl
    intro ls hl
    replace hl : lv_has ls 7 [(5, .int 0), (0, .ref b), (1, .ref (adC 60)), (2, .ref (adM 1)), (3, .ref ao), (4, .int (nI n))] := hl
    refine W.eq (g2 := F0 m 329 ls []) rfl ?_
    refine lv_aload_n hx hb (show decode code 329 = .ok (.aload_n 2, 1) by decide +kernel) rfl (lv_at hl 3 rfl) ?_
    refine lc_arg (n := n) (j := 1) (jc := 1) (pc := 330) hx hb hX hbl hbA hS (lv_at hl 1 rfl) (lv_at hl 5 rfl) (by omega) hL (by decide) (by decide +kernel) (by decide +kernel) (by decide +kernel) (by decide +kernel) (by decide +kernel) ?_
    refine W.eq (g2 := F0 m 336 ls ((([.int (xs (n + 1))] : List Value).map (sm_cz (sm_ad (Dg, cI, cZ, adM)))).reverse ++ .ref (sm_ad (Dg, cI, cZ, adM) (0 + 1)) :: [])) rfl ?_
    refine lc_M (G := (Dg, cI, cZ, adM)) (wo := lc_o cL ao (vp_updL f 0 bb.toInt64)) (d := 5) (ix := 52) hx hb hml hown hts (m38 g1) pq38 (sm_mem1 1329 (by decide +kernel) (by decide +kernel)) (sm_mem1 1330 (by decide +kernel) (by decide +kernel)) (sm_mem1 1331 (by decide +kernel) (by decide +kernel)) (T := tF9) (N := 84) rfl rfl (hKL.sub [0, 1] rfl) hP hD hS hA hGm (Nat.le_of_ble_eq_true rfl) (Nat.le_of_ble_eq_true rfl) (by show cells + 0 ≤ 601024; omega) (by show slots + 6 * 0 ≤ 7293034; omega) hl.1 rfl (Nat.le_of_ble_eq_true rfl) (show decode code 336 = .ok (.invokevirtual 52, 3) by decide +kernel) (fun H locs hP hD hS => ?_)
    refine W.eq (g2 := F0 m 339 ls [.int bb]) rfl ?_
    refine lv_istore hx hb (show decode code 339 = .ok (.istore 6, 2) by decide +kernel) hl (by decide) rfl ?_
    clear hl
    intro ls hl
    replace hl : lv_has ls 7 [(6, .int bb), (5, .int 0), (0, .ref b), (1, .ref (adC 60)), (2, .ref (adM 1)), (3, .ref ao), (4, .int (nI n))] := hl
    refine W.eq (g2 := F0 m 341 ls []) rfl ?_
    refine lv_aload_n hx hb (show decode code 341 = .ok (.aload_n 2, 1) by decide +kernel) rfl (lv_at hl 4 rfl) ?_
    refine W.eq (g2 := F0 m 342 ls ((([] : List Value).map (sm_cz (sm_ad (Dg, cI, cZ, adM)))).reverse ++ .ref (sm_ad (Dg, cI, cZ, adM) (0 + 1)) :: [])) rfl ?_
    refine lc_M (G := (Dg, cI, cZ, adM)) (wo := lc_o cL ao (vp_updL f 0 bb.toInt64)) (d := 0) (ix := 53) hx hb hml hown hts (m15 g2) pq15 (sm_mem1 1282 (by decide +kernel) (by decide +kernel)) (sm_mem1 1283 (by decide +kernel) (by decide +kernel)) (sm_mem1 1284 (by decide +kernel) (by decide +kernel)) (T := tF9) (N := 84) rfl rfl (hKL.sub [0, 1] rfl) hP hD hS hA hGm (Nat.le_of_ble_eq_true rfl) (Nat.le_of_ble_eq_true rfl) (by show cells + 0 ≤ 601024; omega) (by show slots + 6 * 0 ≤ 7293034; omega) hl.1 rfl (Nat.le_of_ble_eq_true rfl) (show decode code 342 = .ok (.invokevirtual 53, 3) by decide +kernel) (fun H locs hP hD hS => ?_)
    refine W.eq (g2 := F0 m 345 ls [.int 0]) rfl ?_
    refine lv_iload hx hb (show decode code 345 = .ok (.iload 5, 2) by decide +kernel) (lv_at hl 1 rfl) ?_
    refine W.eq (g2 := F0 m 347 ls [.int 0, .int 0]) rfl ?_
    refine lv_icmp_eq hx hb (show decode code 347 = .ok (.if_icmp .eq 5, 3) by decide +kernel) (tgt := 352) (by decide) (fun _ => ?_) (fun h => absurd rfl h)
    refine W.eq (g2 := F0 m 352 ls []) rfl ?_
    refine lv_iload hx hb (show decode code 352 = .ok (.iload 5, 2) by decide +kernel) (lv_at hl 1 rfl) ?_
    refine W.eq (g2 := F0 m 354 ls [.int 0]) rfl ?_
    refine lv_if_ne hx hb (show decode code 354 = .ok (.ifCond .ne 15, 3) by decide +kernel) (tgt := 369) (by decide) (fun h => absurd rfl h) (fun _ => ?_)
    refine W.eq (g2 := F0 m 357 ls []) rfl ?_
    refine lv_aload_n hx hb (show decode code 357 = .ok (.aload_n 3, 1) by decide +kernel) rfl (lv_at hl 5 rfl) ?_
    refine lv_iconst (v := 0) hx hb (show decode code 358 = .ok (.iconst 0, 1) by decide +kernel) (by decide) ?_
    refine va_lald (tys := lh_tys (Dg, cI, cZ, adC) cL) hx hb hKL hP 120 2 lc_at rfl (vp_in_iff.mpr (by decide)) (show decode code 359 = .ok (.laload, 1) by decide +kernel) ?_
    refine lv_iload hx hb (show decode code 360 = .ok (.iload 6, 2) by decide +kernel) (lv_at hl 0 rfl) ?_
    refine lv_i2l hx hb (show decode code 362 = .ok (.i2l, 1) by decide +kernel) rfl ?_
    refine W.lcmp hx hb (show decode code 363 = .ok (.lcmp, 1) by decide +kernel) ?_
    rw [show lg_cmp (vp_updL f 0 bb.toInt64 (0 : Int32).toNatClampNeg) bb.toInt64 = 0 from lc_cmp]
    refine lv_if_eq hx hb (show decode code 364 = .ok (.ifCond .eq 5, 3) by decide +kernel) (tgt := 369) (by decide) (fun _ => ?_) (fun h => absurd rfl h)
    refine W.eq (g2 := F0 m 369 ls []) rfl ?_
    refine lv_goto hx hb (show decode code 369 = .ok (.goto 355, 3) by decide +kernel) (tgt := 724) (by decide) ?_
    exact W.widen (by omega) (by omega) (kk (vp_updL f 0 bb.toInt64) _ M3 Mm2 _ _ _ hp hP hD hS (lv_sub hl [2, 3, 4, 5, 6] rfl))
set_option maxRecDepth 100000 in
set_option maxHeartbeats 16000000 in
theorem lw_c6 {p : Program} {l : Launch} {e : Env} {s : State} {m : MethodId} {below : List Frame} {meth : Method} {c : Code} {Q : State → Prop} {A : Nat → Prop} {b L n ao : Nat} {xs : Nat → Int32} {Dg : va_G} {cI cZ cL : ClassId} {adC adM : Nat → Nat} {cells slots : Nat} {f : Nat → Int64} {d0 d1 d2 d3 d4 : Nat} {Mc Mm : sm_M} {H : Heap} {locs : List Loc} {ls : Array Slot} {P : sm_D → sm_M → sm_M → Prop} (hx : p.tables.exec = Jvm.exec) (hb : c.code = code) (hml : c.maxLocals = 7) (hown : s.vm.findClass "TypedMillLaw" = some m.cls) (hts : ∀ w ∈ smT, w.before #[Value.ref b] s = true) (hfl : l.flags = flags0) (hX : va_X b L xs s s.heap) (hbl : b < s.heap.size) (hbA : ¬ A b) (hA : ∀ q, s.heap.size ≤ q → A q) (hKL : va_K Dg smCl (lh_tys (Dg, cI, cZ, adC) cL) s) (hGc : sm_sta smSa (Dg, cI, cZ, adC) A s s.heap) (hGm : sm_sta smSa (Dg, cI, cZ, adM) A s s.heap) (hxk : xt_K A s s.heap) (hn : n + 6 ≤ L) (hL : L ≤ 3072) (hd0 : [d0] ∈ gC) (hce : cells + 1 ≤ 601024) (hsl : slots + 6 ≤ 7293034) (hP : va_P Dg smCl (sm_ws shC (Dg, cI, cZ, adC) [d0, d1, d2, d3, d4] Mc ++ (sm_ws shM (Dg, cI, cZ, adM) [] Mm ++ lc_o cL ao f)) H) (hD : va_D A (sm_ws shC (Dg, cI, cZ, adC) [d0, d1, d2, d3, d4] Mc ++ (sm_ws shM (Dg, cI, cZ, adM) [] Mm ++ lc_o cL ao f))) (hS : va_S A s.heap H locs) (hl : lv_has ls 7 [(0, .ref b), (1, .ref (adC 60)), (2, .ref (adM 1)), (3, .ref ao), (4, .int (nI n))]) (kk : lc_go p l e s m below meth c Q A b n ao Dg cI cZ cL adC adM (cells + 1) (slots + 6) 724 P) (st : lc_co (xs (n + 1)) [d0, d1, d2, d3, d4] Mc Mm P) : W p l e room_1 s m #[Value.ref b] below meth c H locs cells slots Q (F0 m 385 ls []) := by
  obtain ⟨bb, k, Mm1, Mm2, g1, g2, hroad⟩ := st
  rcases hroad with ⟨rfl, M1, h1, hp⟩ | ⟨rfl, r1, t, M1, M2, h1, hr1, h2, ht, hp⟩ | ⟨rfl, f0, f1, f2, f3, f4, e4, r1, M1, M2, M3, M4, hDe, (⟨rfl, rfl⟩ | ⟨rfl, rfl⟩), h1, hr1, h2, h3, h4, hp⟩ | ⟨rfl, f0, f1, f2, f3, f4, e3, e4, r1, r, vd, M1, M2, M3, M4, M6, hDe, (⟨rfl, rfl⟩ | ⟨rfl, rfl⟩), h1, hr1, h2, h3, hr0, h4, h5, hbb, hp⟩
  · refine lv_aload_n hx hb (show decode code 385 = .ok (.aload_n 1, 1) by decide +kernel) rfl (lv_at hl 1 rfl) ?_
    refine lc_arg (n := n) (j := 1) (jc := 1) (pc := 386) hx hb hX hbl hbA hS (lv_at hl 0 rfl) (lv_at hl 4 rfl) (by omega) hL (by decide) (by decide +kernel) (by decide +kernel) (by decide +kernel) (by decide +kernel) (by decide +kernel) ?_
    refine lv_aload_n hx hb (show decode code 392 = .ok (.aload_n 3, 1) by decide +kernel) rfl (lv_at hl 3 rfl) ?_
    refine W.eq (g2 := F0 m 393 ls (([.ref (sm_ad (Dg, cI, cZ, adC) 60), .int (xs (n + 1)), .ref ao] : List Value).reverse ++ [])) rfl ?_
    refine lc_H (G := (Dg, cI, cZ, adC)) (k := 1) (ix := 61) (wm := sm_ws shM (Dg, cI, cZ, adM) [] Mm) hx hb hml hown hts (lh_co1 l hfl (Dg, cI, cZ, adC) cL _ ao f h1) (sm_mem1 940 (by decide +kernel) (by decide +kernel)) (sm_mem1 938 (by decide +kernel) (by decide +kernel)) (sm_mem1 939 (by decide +kernel) (by decide +kernel)) (sm_mem1 102 (by decide +kernel) (by decide +kernel)) ⟨by decide +kernel, by decide +kernel, by decide +kernel⟩ hKL hP hD hS hA hGc hxk (Nat.le_of_ble_eq_true rfl) (Nat.le_of_ble_eq_true rfl) (by show cells + 1 ≤ 601024; omega) (by show slots + 6 * 1 ≤ 7293034; omega) hl.1 (Nat.le_of_ble_eq_true rfl) (show decode code 393 = .ok (.invokestatic 61, 3) by decide +kernel) (fun H locs hP hD hS => ?_)
    refine W.eq (g2 := F0 m 396 ls [.int 1]) rfl ?_
    refine lv_istore hx hb (show decode code 396 = .ok (.istore 5, 2) by decide +kernel) hl (by decide) rfl ?_
    clear hl
    intro ls hl
    replace hl : lv_has ls 7 [(5, .int 1), (0, .ref b), (1, .ref (adC 60)), (2, .ref (adM 1)), (3, .ref ao), (4, .int (nI n))] := hl
    refine W.eq (g2 := F0 m 398 ls []) rfl ?_
    refine lv_aload_n hx hb (show decode code 398 = .ok (.aload_n 2, 1) by decide +kernel) rfl (lv_at hl 3 rfl) ?_
    refine lc_arg (n := n) (j := 1) (jc := 1) (pc := 399) hx hb hX hbl hbA hS (lv_at hl 1 rfl) (lv_at hl 5 rfl) (by omega) hL (by decide) (by decide +kernel) (by decide +kernel) (by decide +kernel) (by decide +kernel) (by decide +kernel) ?_
    refine W.eq (g2 := F0 m 405 ls ((([.int (xs (n + 1))] : List Value).map (sm_cz (sm_ad (Dg, cI, cZ, adM)))).reverse ++ .ref (sm_ad (Dg, cI, cZ, adM) (0 + 1)) :: [])) rfl ?_
    refine lc_M (G := (Dg, cI, cZ, adM)) (wo := lc_o cL ao f) (d := 8) (ix := 63) hx hb hml hown hts (m60 g1) pq60 (sm_mem1 1372 (by decide +kernel) (by decide +kernel)) (sm_mem1 1373 (by decide +kernel) (by decide +kernel)) (sm_mem1 1374 (by decide +kernel) (by decide +kernel)) (T := tF9) (N := 84) rfl rfl (hKL.sub [0, 1] rfl) hP hD hS hA hGm (Nat.le_of_ble_eq_true rfl) (Nat.le_of_ble_eq_true rfl) (by show cells + 1 ≤ 601024; omega) (by show slots + 6 * 1 ≤ 7293034; omega) hl.1 rfl (Nat.le_of_ble_eq_true rfl) (show decode code 405 = .ok (.invokevirtual 63, 3) by decide +kernel) (fun H locs hP hD hS => ?_)
    refine W.eq (g2 := F0 m 408 ls [.int bb]) rfl ?_
    refine lv_istore hx hb (show decode code 408 = .ok (.istore 6, 2) by decide +kernel) hl (by decide) rfl ?_
    clear hl
    intro ls hl
    replace hl : lv_has ls 7 [(6, .int bb), (5, .int 1), (0, .ref b), (1, .ref (adC 60)), (2, .ref (adM 1)), (3, .ref ao), (4, .int (nI n))] := hl
    refine W.eq (g2 := F0 m 410 ls []) rfl ?_
    refine lv_aload_n hx hb (show decode code 410 = .ok (.aload_n 2, 1) by decide +kernel) rfl (lv_at hl 4 rfl) ?_
    refine W.eq (g2 := F0 m 411 ls ((([] : List Value).map (sm_cz (sm_ad (Dg, cI, cZ, adM)))).reverse ++ .ref (sm_ad (Dg, cI, cZ, adM) (0 + 1)) :: [])) rfl ?_
    refine lc_M (G := (Dg, cI, cZ, adM)) (wo := lc_o cL ao f) (d := 0) (ix := 53) hx hb hml hown hts (m15 g2) pq15 (sm_mem1 1282 (by decide +kernel) (by decide +kernel)) (sm_mem1 1283 (by decide +kernel) (by decide +kernel)) (sm_mem1 1284 (by decide +kernel) (by decide +kernel)) (T := tF9) (N := 84) rfl rfl (hKL.sub [0, 1] rfl) hP hD hS hA hGm (Nat.le_of_ble_eq_true rfl) (Nat.le_of_ble_eq_true rfl) (by show cells + 1 ≤ 601024; omega) (by show slots + 6 * 1 ≤ 7293034; omega) hl.1 rfl (Nat.le_of_ble_eq_true rfl) (show decode code 411 = .ok (.invokevirtual 53, 3) by decide +kernel) (fun H locs hP hD hS => ?_)
    refine W.eq (g2 := F0 m 414 ls [.int 1]) rfl ?_
    refine lv_iload hx hb (show decode code 414 = .ok (.iload 5, 2) by decide +kernel) (lv_at hl 1 rfl) ?_
    refine W.eq (g2 := F0 m 416 ls [.int 1, .int 1]) rfl ?_
    refine lv_icmp_eq hx hb (show decode code 416 = .ok (.if_icmp .eq 5, 3) by decide +kernel) (tgt := 421) (by decide) (fun _ => ?_) (fun h => absurd rfl h)
    refine W.eq (g2 := F0 m 421 ls []) rfl ?_
    refine lv_iload hx hb (show decode code 421 = .ok (.iload 5, 2) by decide +kernel) (lv_at hl 1 rfl) ?_
    refine W.eq (g2 := F0 m 423 ls [.int 1]) rfl ?_
    refine lv_if_ne hx hb (show decode code 423 = .ok (.ifCond .ne 15, 3) by decide +kernel) (tgt := 438) (by decide) (fun _ => ?_) (fun h => absurd h (by decide))
    refine W.eq (g2 := F0 m 438 ls []) rfl ?_
    refine lv_goto hx hb (show decode code 438 = .ok (.goto 286, 3) by decide +kernel) (tgt := 724) (by decide) ?_
    exact W.widen (by omega) (by omega) (kk f _ M1 Mm2 _ _ _ hp hP hD hS (lv_sub hl [2, 3, 4, 5, 6] rfl))
  · refine lv_aload_n hx hb (show decode code 385 = .ok (.aload_n 1, 1) by decide +kernel) rfl (lv_at hl 1 rfl) ?_
    refine lc_arg (n := n) (j := 1) (jc := 1) (pc := 386) hx hb hX hbl hbA hS (lv_at hl 0 rfl) (lv_at hl 4 rfl) (by omega) hL (by decide) (by decide +kernel) (by decide +kernel) (by decide +kernel) (by decide +kernel) (by decide +kernel) ?_
    refine lv_aload_n hx hb (show decode code 392 = .ok (.aload_n 3, 1) by decide +kernel) rfl (lv_at hl 3 rfl) ?_
    refine W.eq (g2 := F0 m 393 ls (([.ref (sm_ad (Dg, cI, cZ, adC) 60), .int (xs (n + 1)), .ref ao] : List Value).reverse ++ [])) rfl ?_
    refine lc_H (G := (Dg, cI, cZ, adC)) (k := 1) (ix := 61) (wm := sm_ws shM (Dg, cI, cZ, adM) [] Mm) hx hb hml hown hts (lh_co2 l hfl (Dg, cI, cZ, adC) cL _ ao f h1 hr1 h2 ht) (sm_mem1 940 (by decide +kernel) (by decide +kernel)) (sm_mem1 938 (by decide +kernel) (by decide +kernel)) (sm_mem1 939 (by decide +kernel) (by decide +kernel)) (sm_mem1 102 (by decide +kernel) (by decide +kernel)) ⟨by decide +kernel, by decide +kernel, by decide +kernel⟩ hKL hP hD hS hA hGc hxk (Nat.le_of_ble_eq_true rfl) (Nat.le_of_ble_eq_true rfl) (by show cells + 1 ≤ 601024; omega) (by show slots + 6 * 1 ≤ 7293034; omega) hl.1 (Nat.le_of_ble_eq_true rfl) (show decode code 393 = .ok (.invokestatic 61, 3) by decide +kernel) (fun H locs hP hD hS => ?_)
    refine W.eq (g2 := F0 m 396 ls [.int 2]) rfl ?_
    refine lv_istore hx hb (show decode code 396 = .ok (.istore 5, 2) by decide +kernel) hl (by decide) rfl ?_
    clear hl
    intro ls hl
    replace hl : lv_has ls 7 [(5, .int 2), (0, .ref b), (1, .ref (adC 60)), (2, .ref (adM 1)), (3, .ref ao), (4, .int (nI n))] := hl
    refine W.eq (g2 := F0 m 398 ls []) rfl ?_
    refine lv_aload_n hx hb (show decode code 398 = .ok (.aload_n 2, 1) by decide +kernel) rfl (lv_at hl 3 rfl) ?_
    refine lc_arg (n := n) (j := 1) (jc := 1) (pc := 399) hx hb hX hbl hbA hS (lv_at hl 1 rfl) (lv_at hl 5 rfl) (by omega) hL (by decide) (by decide +kernel) (by decide +kernel) (by decide +kernel) (by decide +kernel) (by decide +kernel) ?_
    refine W.eq (g2 := F0 m 405 ls ((([.int (xs (n + 1))] : List Value).map (sm_cz (sm_ad (Dg, cI, cZ, adM)))).reverse ++ .ref (sm_ad (Dg, cI, cZ, adM) (0 + 1)) :: [])) rfl ?_
    refine lc_M (G := (Dg, cI, cZ, adM)) (wo := lc_o cL ao f) (d := 8) (ix := 63) hx hb hml hown hts (m60 g1) pq60 (sm_mem1 1372 (by decide +kernel) (by decide +kernel)) (sm_mem1 1373 (by decide +kernel) (by decide +kernel)) (sm_mem1 1374 (by decide +kernel) (by decide +kernel)) (T := tF9) (N := 84) rfl rfl (hKL.sub [0, 1] rfl) hP hD hS hA hGm (Nat.le_of_ble_eq_true rfl) (Nat.le_of_ble_eq_true rfl) (by show cells + 1 ≤ 601024; omega) (by show slots + 6 * 1 ≤ 7293034; omega) hl.1 rfl (Nat.le_of_ble_eq_true rfl) (show decode code 405 = .ok (.invokevirtual 63, 3) by decide +kernel) (fun H locs hP hD hS => ?_)
    refine W.eq (g2 := F0 m 408 ls [.int bb]) rfl ?_
    refine lv_istore hx hb (show decode code 408 = .ok (.istore 6, 2) by decide +kernel) hl (by decide) rfl ?_
    clear hl
    intro ls hl
    replace hl : lv_has ls 7 [(6, .int bb), (5, .int 2), (0, .ref b), (1, .ref (adC 60)), (2, .ref (adM 1)), (3, .ref ao), (4, .int (nI n))] := hl
    refine W.eq (g2 := F0 m 410 ls []) rfl ?_
    refine lv_aload_n hx hb (show decode code 410 = .ok (.aload_n 2, 1) by decide +kernel) rfl (lv_at hl 4 rfl) ?_
    refine W.eq (g2 := F0 m 411 ls ((([] : List Value).map (sm_cz (sm_ad (Dg, cI, cZ, adM)))).reverse ++ .ref (sm_ad (Dg, cI, cZ, adM) (0 + 1)) :: [])) rfl ?_
    refine lc_M (G := (Dg, cI, cZ, adM)) (wo := lc_o cL ao f) (d := 0) (ix := 53) hx hb hml hown hts (m15 g2) pq15 (sm_mem1 1282 (by decide +kernel) (by decide +kernel)) (sm_mem1 1283 (by decide +kernel) (by decide +kernel)) (sm_mem1 1284 (by decide +kernel) (by decide +kernel)) (T := tF9) (N := 84) rfl rfl (hKL.sub [0, 1] rfl) hP hD hS hA hGm (Nat.le_of_ble_eq_true rfl) (Nat.le_of_ble_eq_true rfl) (by show cells + 1 ≤ 601024; omega) (by show slots + 6 * 1 ≤ 7293034; omega) hl.1 rfl (Nat.le_of_ble_eq_true rfl) (show decode code 411 = .ok (.invokevirtual 53, 3) by decide +kernel) (fun H locs hP hD hS => ?_)
    refine W.eq (g2 := F0 m 414 ls [.int 2]) rfl ?_
    refine lv_iload hx hb (show decode code 414 = .ok (.iload 5, 2) by decide +kernel) (lv_at hl 1 rfl) ?_
    refine W.eq (g2 := F0 m 416 ls [.int 2, .int 2]) rfl ?_
    refine lv_icmp_eq hx hb (show decode code 416 = .ok (.if_icmp .eq 5, 3) by decide +kernel) (tgt := 421) (by decide) (fun _ => ?_) (fun h => absurd rfl h)
    refine W.eq (g2 := F0 m 421 ls []) rfl ?_
    refine lv_iload hx hb (show decode code 421 = .ok (.iload 5, 2) by decide +kernel) (lv_at hl 1 rfl) ?_
    refine W.eq (g2 := F0 m 423 ls [.int 2]) rfl ?_
    refine lv_if_ne hx hb (show decode code 423 = .ok (.ifCond .ne 15, 3) by decide +kernel) (tgt := 438) (by decide) (fun _ => ?_) (fun h => absurd h (by decide))
    refine W.eq (g2 := F0 m 438 ls []) rfl ?_
    refine lv_goto hx hb (show decode code 438 = .ok (.goto 286, 3) by decide +kernel) (tgt := 724) (by decide) ?_
    exact W.widen (by omega) (by omega) (kk f _ M2 Mm2 _ _ _ hp hP hD hS (lv_sub hl [2, 3, 4, 5, 6] rfl))
  · cases hDe
    refine lv_aload_n hx hb (show decode code 385 = .ok (.aload_n 1, 1) by decide +kernel) rfl (lv_at hl 1 rfl) ?_
    refine lc_arg (n := n) (j := 1) (jc := 1) (pc := 386) hx hb hX hbl hbA hS (lv_at hl 0 rfl) (lv_at hl 4 rfl) (by omega) hL (by decide) (by decide +kernel) (by decide +kernel) (by decide +kernel) (by decide +kernel) (by decide +kernel) ?_
    refine lv_aload_n hx hb (show decode code 392 = .ok (.aload_n 3, 1) by decide +kernel) rfl (lv_at hl 3 rfl) ?_
    refine W.eq (g2 := F0 m 393 ls (([.ref (sm_ad (Dg, cI, cZ, adC) 60), .int (xs (n + 1)), .ref ao] : List Value).reverse ++ [])) rfl ?_
    refine lc_H (G := (Dg, cI, cZ, adC)) (k := 1) (ix := 61) (wm := sm_ws shM (Dg, cI, cZ, adM) [] Mm) hx hb hml hown hts (lh_co3A l hfl (Dg, cI, cZ, adC) cL _ ao f h1 hr1 h2 h3 h4) (sm_mem1 940 (by decide +kernel) (by decide +kernel)) (sm_mem1 938 (by decide +kernel) (by decide +kernel)) (sm_mem1 939 (by decide +kernel) (by decide +kernel)) (sm_mem1 102 (by decide +kernel) (by decide +kernel)) ⟨by decide +kernel, by decide +kernel, by decide +kernel⟩ hKL hP hD hS hA hGc hxk (Nat.le_of_ble_eq_true rfl) (Nat.le_of_ble_eq_true rfl) (by show cells + 1 ≤ 601024; omega) (by show slots + 6 * 1 ≤ 7293034; omega) hl.1 (Nat.le_of_ble_eq_true rfl) (show decode code 393 = .ok (.invokestatic 61, 3) by decide +kernel) (fun H locs hP hD hS => ?_)
    refine W.eq (g2 := F0 m 396 ls [.int 3]) rfl ?_
    refine lv_istore hx hb (show decode code 396 = .ok (.istore 5, 2) by decide +kernel) hl (by decide) rfl ?_
    clear hl
    intro ls hl
    replace hl : lv_has ls 7 [(5, .int 3), (0, .ref b), (1, .ref (adC 60)), (2, .ref (adM 1)), (3, .ref ao), (4, .int (nI n))] := hl
    refine W.eq (g2 := F0 m 398 ls []) rfl ?_
    refine lv_aload_n hx hb (show decode code 398 = .ok (.aload_n 2, 1) by decide +kernel) rfl (lv_at hl 3 rfl) ?_
    refine lc_arg (n := n) (j := 1) (jc := 1) (pc := 399) hx hb hX hbl hbA hS (lv_at hl 1 rfl) (lv_at hl 5 rfl) (by omega) hL (by decide) (by decide +kernel) (by decide +kernel) (by decide +kernel) (by decide +kernel) (by decide +kernel) ?_
    refine W.eq (g2 := F0 m 405 ls ((([.int (xs (n + 1))] : List Value).map (sm_cz (sm_ad (Dg, cI, cZ, adM)))).reverse ++ .ref (sm_ad (Dg, cI, cZ, adM) (0 + 1)) :: [])) rfl ?_
    refine lc_M (G := (Dg, cI, cZ, adM)) (wo := lc_o cL ao f) (d := 8) (ix := 63) hx hb hml hown hts (m60 g1) pq60 (sm_mem1 1372 (by decide +kernel) (by decide +kernel)) (sm_mem1 1373 (by decide +kernel) (by decide +kernel)) (sm_mem1 1374 (by decide +kernel) (by decide +kernel)) (T := tF9) (N := 84) rfl rfl (hKL.sub [0, 1] rfl) hP hD hS hA hGm (Nat.le_of_ble_eq_true rfl) (Nat.le_of_ble_eq_true rfl) (by show cells + 1 ≤ 601024; omega) (by show slots + 6 * 1 ≤ 7293034; omega) hl.1 rfl (Nat.le_of_ble_eq_true rfl) (show decode code 405 = .ok (.invokevirtual 63, 3) by decide +kernel) (fun H locs hP hD hS => ?_)
    refine W.eq (g2 := F0 m 408 ls [.int bb]) rfl ?_
    refine lv_istore hx hb (show decode code 408 = .ok (.istore 6, 2) by decide +kernel) hl (by decide) rfl ?_
    clear hl
    intro ls hl
    replace hl : lv_has ls 7 [(6, .int bb), (5, .int 3), (0, .ref b), (1, .ref (adC 60)), (2, .ref (adM 1)), (3, .ref ao), (4, .int (nI n))] := hl
    refine W.eq (g2 := F0 m 410 ls []) rfl ?_
    refine lv_aload_n hx hb (show decode code 410 = .ok (.aload_n 2, 1) by decide +kernel) rfl (lv_at hl 4 rfl) ?_
    refine W.eq (g2 := F0 m 411 ls ((([] : List Value).map (sm_cz (sm_ad (Dg, cI, cZ, adM)))).reverse ++ .ref (sm_ad (Dg, cI, cZ, adM) (0 + 1)) :: [])) rfl ?_
    refine lc_M (G := (Dg, cI, cZ, adM)) (wo := lc_o cL ao f) (d := 0) (ix := 53) hx hb hml hown hts (m15 g2) pq15 (sm_mem1 1282 (by decide +kernel) (by decide +kernel)) (sm_mem1 1283 (by decide +kernel) (by decide +kernel)) (sm_mem1 1284 (by decide +kernel) (by decide +kernel)) (T := tF9) (N := 84) rfl rfl (hKL.sub [0, 1] rfl) hP hD hS hA hGm (Nat.le_of_ble_eq_true rfl) (Nat.le_of_ble_eq_true rfl) (by show cells + 1 ≤ 601024; omega) (by show slots + 6 * 1 ≤ 7293034; omega) hl.1 rfl (Nat.le_of_ble_eq_true rfl) (show decode code 411 = .ok (.invokevirtual 53, 3) by decide +kernel) (fun H locs hP hD hS => ?_)
    refine W.eq (g2 := F0 m 414 ls [.int 3]) rfl ?_
    refine lv_iload hx hb (show decode code 414 = .ok (.iload 5, 2) by decide +kernel) (lv_at hl 1 rfl) ?_
    refine W.eq (g2 := F0 m 416 ls [.int 3, .int 3]) rfl ?_
    refine lv_icmp_eq hx hb (show decode code 416 = .ok (.if_icmp .eq 5, 3) by decide +kernel) (tgt := 421) (by decide) (fun _ => ?_) (fun h => absurd rfl h)
    refine W.eq (g2 := F0 m 421 ls []) rfl ?_
    refine lv_iload hx hb (show decode code 421 = .ok (.iload 5, 2) by decide +kernel) (lv_at hl 1 rfl) ?_
    refine W.eq (g2 := F0 m 423 ls [.int 3]) rfl ?_
    refine lv_if_ne hx hb (show decode code 423 = .ok (.ifCond .ne 15, 3) by decide +kernel) (tgt := 438) (by decide) (fun _ => ?_) (fun h => absurd h (by decide))
    refine W.eq (g2 := F0 m 438 ls []) rfl ?_
    refine lv_goto hx hb (show decode code 438 = .ok (.goto 286, 3) by decide +kernel) (tgt := 724) (by decide) ?_
    exact W.widen (by omega) (by omega) (kk f _ M4 Mm2 _ _ _ hp hP hD hS (lv_sub hl [2, 3, 4, 5, 6] rfl))
  · cases hDe
    refine lv_aload_n hx hb (show decode code 385 = .ok (.aload_n 1, 1) by decide +kernel) rfl (lv_at hl 1 rfl) ?_
    refine lc_arg (n := n) (j := 1) (jc := 1) (pc := 386) hx hb hX hbl hbA hS (lv_at hl 0 rfl) (lv_at hl 4 rfl) (by omega) hL (by decide) (by decide +kernel) (by decide +kernel) (by decide +kernel) (by decide +kernel) (by decide +kernel) ?_
    refine lv_aload_n hx hb (show decode code 392 = .ok (.aload_n 3, 1) by decide +kernel) rfl (lv_at hl 3 rfl) ?_
    refine W.eq (g2 := F0 m 393 ls (([.ref (sm_ad (Dg, cI, cZ, adC) 60), .int (xs (n + 1)), .ref ao] : List Value).reverse ++ [])) rfl ?_
    refine lc_H (G := (Dg, cI, cZ, adC)) (k := 1) (ix := 61) (wm := sm_ws shM (Dg, cI, cZ, adM) [] Mm) hx hb hml hown hts (lh_co3B l hfl (Dg, cI, cZ, adC) cL _ ao f h1 hr1 h2 h3 h4) (sm_mem1 940 (by decide +kernel) (by decide +kernel)) (sm_mem1 938 (by decide +kernel) (by decide +kernel)) (sm_mem1 939 (by decide +kernel) (by decide +kernel)) (sm_mem1 102 (by decide +kernel) (by decide +kernel)) ⟨by decide +kernel, by decide +kernel, by decide +kernel⟩ hKL hP hD hS hA hGc hxk (Nat.le_of_ble_eq_true rfl) (Nat.le_of_ble_eq_true rfl) (by show cells + 1 ≤ 601024; omega) (by show slots + 6 * 1 ≤ 7293034; omega) hl.1 (Nat.le_of_ble_eq_true rfl) (show decode code 393 = .ok (.invokestatic 61, 3) by decide +kernel) (fun H locs hP hD hS => ?_)
    refine W.eq (g2 := F0 m 396 ls [.int 3]) rfl ?_
    refine lv_istore hx hb (show decode code 396 = .ok (.istore 5, 2) by decide +kernel) hl (by decide) rfl ?_
    clear hl
    intro ls hl
    replace hl : lv_has ls 7 [(5, .int 3), (0, .ref b), (1, .ref (adC 60)), (2, .ref (adM 1)), (3, .ref ao), (4, .int (nI n))] := hl
    refine W.eq (g2 := F0 m 398 ls []) rfl ?_
    refine lv_aload_n hx hb (show decode code 398 = .ok (.aload_n 2, 1) by decide +kernel) rfl (lv_at hl 3 rfl) ?_
    refine lc_arg (n := n) (j := 1) (jc := 1) (pc := 399) hx hb hX hbl hbA hS (lv_at hl 1 rfl) (lv_at hl 5 rfl) (by omega) hL (by decide) (by decide +kernel) (by decide +kernel) (by decide +kernel) (by decide +kernel) (by decide +kernel) ?_
    refine W.eq (g2 := F0 m 405 ls ((([.int (xs (n + 1))] : List Value).map (sm_cz (sm_ad (Dg, cI, cZ, adM)))).reverse ++ .ref (sm_ad (Dg, cI, cZ, adM) (0 + 1)) :: [])) rfl ?_
    refine lc_M (G := (Dg, cI, cZ, adM)) (wo := lc_o cL ao f) (d := 8) (ix := 63) hx hb hml hown hts (m60 g1) pq60 (sm_mem1 1372 (by decide +kernel) (by decide +kernel)) (sm_mem1 1373 (by decide +kernel) (by decide +kernel)) (sm_mem1 1374 (by decide +kernel) (by decide +kernel)) (T := tF9) (N := 84) rfl rfl (hKL.sub [0, 1] rfl) hP hD hS hA hGm (Nat.le_of_ble_eq_true rfl) (Nat.le_of_ble_eq_true rfl) (by show cells + 1 ≤ 601024; omega) (by show slots + 6 * 1 ≤ 7293034; omega) hl.1 rfl (Nat.le_of_ble_eq_true rfl) (show decode code 405 = .ok (.invokevirtual 63, 3) by decide +kernel) (fun H locs hP hD hS => ?_)
    refine W.eq (g2 := F0 m 408 ls [.int bb]) rfl ?_
    refine lv_istore hx hb (show decode code 408 = .ok (.istore 6, 2) by decide +kernel) hl (by decide) rfl ?_
    clear hl
    intro ls hl
    replace hl : lv_has ls 7 [(6, .int bb), (5, .int 3), (0, .ref b), (1, .ref (adC 60)), (2, .ref (adM 1)), (3, .ref ao), (4, .int (nI n))] := hl
    refine W.eq (g2 := F0 m 410 ls []) rfl ?_
    refine lv_aload_n hx hb (show decode code 410 = .ok (.aload_n 2, 1) by decide +kernel) rfl (lv_at hl 4 rfl) ?_
    refine W.eq (g2 := F0 m 411 ls ((([] : List Value).map (sm_cz (sm_ad (Dg, cI, cZ, adM)))).reverse ++ .ref (sm_ad (Dg, cI, cZ, adM) (0 + 1)) :: [])) rfl ?_
    refine lc_M (G := (Dg, cI, cZ, adM)) (wo := lc_o cL ao f) (d := 0) (ix := 53) hx hb hml hown hts (m15 g2) pq15 (sm_mem1 1282 (by decide +kernel) (by decide +kernel)) (sm_mem1 1283 (by decide +kernel) (by decide +kernel)) (sm_mem1 1284 (by decide +kernel) (by decide +kernel)) (T := tF9) (N := 84) rfl rfl (hKL.sub [0, 1] rfl) hP hD hS hA hGm (Nat.le_of_ble_eq_true rfl) (Nat.le_of_ble_eq_true rfl) (by show cells + 1 ≤ 601024; omega) (by show slots + 6 * 1 ≤ 7293034; omega) hl.1 rfl (Nat.le_of_ble_eq_true rfl) (show decode code 411 = .ok (.invokevirtual 53, 3) by decide +kernel) (fun H locs hP hD hS => ?_)
    refine W.eq (g2 := F0 m 414 ls [.int 3]) rfl ?_
    refine lv_iload hx hb (show decode code 414 = .ok (.iload 5, 2) by decide +kernel) (lv_at hl 1 rfl) ?_
    refine W.eq (g2 := F0 m 416 ls [.int 3, .int 3]) rfl ?_
    refine lv_icmp_eq hx hb (show decode code 416 = .ok (.if_icmp .eq 5, 3) by decide +kernel) (tgt := 421) (by decide) (fun _ => ?_) (fun h => absurd rfl h)
    refine W.eq (g2 := F0 m 421 ls []) rfl ?_
    refine lv_iload hx hb (show decode code 421 = .ok (.iload 5, 2) by decide +kernel) (lv_at hl 1 rfl) ?_
    refine W.eq (g2 := F0 m 423 ls [.int 3]) rfl ?_
    refine lv_if_ne hx hb (show decode code 423 = .ok (.ifCond .ne 15, 3) by decide +kernel) (tgt := 438) (by decide) (fun _ => ?_) (fun h => absurd h (by decide))
    refine W.eq (g2 := F0 m 438 ls []) rfl ?_
    refine lv_goto hx hb (show decode code 438 = .ok (.goto 286, 3) by decide +kernel) (tgt := 724) (by decide) ?_
    exact W.widen (by omega) (by omega) (kk f _ M4 Mm2 _ _ _ hp hP hD hS (lv_sub hl [2, 3, 4, 5, 6] rfl))
  · cases hDe
    refine lv_aload_n hx hb (show decode code 385 = .ok (.aload_n 1, 1) by decide +kernel) rfl (lv_at hl 1 rfl) ?_
    refine lc_arg (n := n) (j := 1) (jc := 1) (pc := 386) hx hb hX hbl hbA hS (lv_at hl 0 rfl) (lv_at hl 4 rfl) (by omega) hL (by decide) (by decide +kernel) (by decide +kernel) (by decide +kernel) (by decide +kernel) (by decide +kernel) ?_
    refine lv_aload_n hx hb (show decode code 392 = .ok (.aload_n 3, 1) by decide +kernel) rfl (lv_at hl 3 rfl) ?_
    refine W.eq (g2 := F0 m 393 ls (([.ref (sm_ad (Dg, cI, cZ, adC) 60), .int (xs (n + 1)), .ref ao] : List Value).reverse ++ [])) rfl ?_
    refine lc_H (G := (Dg, cI, cZ, adC)) (k := 0) (ix := 61) (wm := sm_ws shM (Dg, cI, cZ, adM) [] Mm) hx hb hml hown hts (lh_co4A l (Dg, cI, cZ, adC) cL _ ao f h1 hr1 h2 h3 hr0 h4 h5) (sm_mem1 940 (by decide +kernel) (by decide +kernel)) (sm_mem1 938 (by decide +kernel) (by decide +kernel)) (sm_mem1 939 (by decide +kernel) (by decide +kernel)) (sm_mem1 102 (by decide +kernel) (by decide +kernel)) ⟨by decide +kernel, by decide +kernel, by decide +kernel⟩ hKL hP hD hS hA hGc hxk (Nat.le_of_ble_eq_true rfl) (Nat.le_of_ble_eq_true rfl) (by show cells + 0 ≤ 601024; omega) (by show slots + 6 * 0 ≤ 7293034; omega) hl.1 (Nat.le_of_ble_eq_true rfl) (show decode code 393 = .ok (.invokestatic 61, 3) by decide +kernel) (fun H locs hP hD hS => ?_)
    refine W.eq (g2 := F0 m 396 ls [.int 0]) rfl ?_
    refine lv_istore hx hb (show decode code 396 = .ok (.istore 5, 2) by decide +kernel) hl (by decide) rfl ?_
    clear hl
    intro ls hl
    replace hl : lv_has ls 7 [(5, .int 0), (0, .ref b), (1, .ref (adC 60)), (2, .ref (adM 1)), (3, .ref ao), (4, .int (nI n))] := hl
    refine W.eq (g2 := F0 m 398 ls []) rfl ?_
    refine lv_aload_n hx hb (show decode code 398 = .ok (.aload_n 2, 1) by decide +kernel) rfl (lv_at hl 3 rfl) ?_
    refine lc_arg (n := n) (j := 1) (jc := 1) (pc := 399) hx hb hX hbl hbA hS (lv_at hl 1 rfl) (lv_at hl 5 rfl) (by omega) hL (by decide) (by decide +kernel) (by decide +kernel) (by decide +kernel) (by decide +kernel) (by decide +kernel) ?_
    refine W.eq (g2 := F0 m 405 ls ((([.int (xs (n + 1))] : List Value).map (sm_cz (sm_ad (Dg, cI, cZ, adM)))).reverse ++ .ref (sm_ad (Dg, cI, cZ, adM) (0 + 1)) :: [])) rfl ?_
    refine lc_M (G := (Dg, cI, cZ, adM)) (wo := lc_o cL ao (vp_updL f 0 (bgM M6 50 6).toInt64)) (d := 8) (ix := 63) hx hb hml hown hts (m60 g1) pq60 (sm_mem1 1372 (by decide +kernel) (by decide +kernel)) (sm_mem1 1373 (by decide +kernel) (by decide +kernel)) (sm_mem1 1374 (by decide +kernel) (by decide +kernel)) (T := tF9) (N := 84) rfl rfl (hKL.sub [0, 1] rfl) hP hD hS hA hGm (Nat.le_of_ble_eq_true rfl) (Nat.le_of_ble_eq_true rfl) (by show cells + 0 ≤ 601024; omega) (by show slots + 6 * 0 ≤ 7293034; omega) hl.1 rfl (Nat.le_of_ble_eq_true rfl) (show decode code 405 = .ok (.invokevirtual 63, 3) by decide +kernel) (fun H locs hP hD hS => ?_)
    refine W.eq (g2 := F0 m 408 ls [.int bb]) rfl ?_
    refine lv_istore hx hb (show decode code 408 = .ok (.istore 6, 2) by decide +kernel) hl (by decide) rfl ?_
    clear hl
    intro ls hl
    replace hl : lv_has ls 7 [(6, .int bb), (5, .int 0), (0, .ref b), (1, .ref (adC 60)), (2, .ref (adM 1)), (3, .ref ao), (4, .int (nI n))] := hl
    refine W.eq (g2 := F0 m 410 ls []) rfl ?_
    refine lv_aload_n hx hb (show decode code 410 = .ok (.aload_n 2, 1) by decide +kernel) rfl (lv_at hl 4 rfl) ?_
    refine W.eq (g2 := F0 m 411 ls ((([] : List Value).map (sm_cz (sm_ad (Dg, cI, cZ, adM)))).reverse ++ .ref (sm_ad (Dg, cI, cZ, adM) (0 + 1)) :: [])) rfl ?_
    refine lc_M (G := (Dg, cI, cZ, adM)) (wo := lc_o cL ao (vp_updL f 0 (bgM M6 50 6).toInt64)) (d := 0) (ix := 53) hx hb hml hown hts (m15 g2) pq15 (sm_mem1 1282 (by decide +kernel) (by decide +kernel)) (sm_mem1 1283 (by decide +kernel) (by decide +kernel)) (sm_mem1 1284 (by decide +kernel) (by decide +kernel)) (T := tF9) (N := 84) rfl rfl (hKL.sub [0, 1] rfl) hP hD hS hA hGm (Nat.le_of_ble_eq_true rfl) (Nat.le_of_ble_eq_true rfl) (by show cells + 0 ≤ 601024; omega) (by show slots + 6 * 0 ≤ 7293034; omega) hl.1 rfl (Nat.le_of_ble_eq_true rfl) (show decode code 411 = .ok (.invokevirtual 53, 3) by decide +kernel) (fun H locs hP hD hS => ?_)
    refine W.eq (g2 := F0 m 414 ls [.int 0]) rfl ?_
    refine lv_iload hx hb (show decode code 414 = .ok (.iload 5, 2) by decide +kernel) (lv_at hl 1 rfl) ?_
    refine W.eq (g2 := F0 m 416 ls [.int 0, .int 0]) rfl ?_
    refine lv_icmp_eq hx hb (show decode code 416 = .ok (.if_icmp .eq 5, 3) by decide +kernel) (tgt := 421) (by decide) (fun _ => ?_) (fun h => absurd rfl h)
    refine W.eq (g2 := F0 m 421 ls []) rfl ?_
    refine lv_iload hx hb (show decode code 421 = .ok (.iload 5, 2) by decide +kernel) (lv_at hl 1 rfl) ?_
    refine W.eq (g2 := F0 m 423 ls [.int 0]) rfl ?_
    refine lv_if_ne hx hb (show decode code 423 = .ok (.ifCond .ne 15, 3) by decide +kernel) (tgt := 438) (by decide) (fun h => absurd rfl h) (fun _ => ?_)
    refine W.eq (g2 := F0 m 426 ls []) rfl ?_
    refine lv_aload_n hx hb (show decode code 426 = .ok (.aload_n 3, 1) by decide +kernel) rfl (lv_at hl 5 rfl) ?_
    refine lv_iconst (v := 0) hx hb (show decode code 427 = .ok (.iconst 0, 1) by decide +kernel) (by decide) ?_
    refine va_lald (tys := lh_tys (Dg, cI, cZ, adC) cL) hx hb hKL hP 120 2 lc_at rfl (vp_in_iff.mpr (by decide)) (show decode code 428 = .ok (.laload, 1) by decide +kernel) ?_
    refine lv_iload hx hb (show decode code 429 = .ok (.iload 6, 2) by decide +kernel) (lv_at hl 0 rfl) ?_
    refine lv_i2l hx hb (show decode code 431 = .ok (.i2l, 1) by decide +kernel) rfl ?_
    refine W.lcmp hx hb (show decode code 432 = .ok (.lcmp, 1) by decide +kernel) ?_
    rw [← hbb]
    rw [show lg_cmp (vp_updL f 0 (bgM M6 50 6).toInt64 (0 : Int32).toNatClampNeg) (bgM M6 50 6).toInt64 = 0 from lc_cmp]
    refine lv_if_eq hx hb (show decode code 433 = .ok (.ifCond .eq 5, 3) by decide +kernel) (tgt := 438) (by decide) (fun _ => ?_) (fun h => absurd rfl h)
    refine W.eq (g2 := F0 m 438 ls []) rfl ?_
    refine lv_goto hx hb (show decode code 438 = .ok (.goto 286, 3) by decide +kernel) (tgt := 724) (by decide) ?_
    exact W.widen (by omega) (by omega) (kk (vp_updL f 0 (bgM M6 50 6).toInt64) _ (bgM M6) Mm2 _ _ _ hp hP hD hS (lv_sub hl [2, 3, 4, 5, 6] rfl))
  · cases hDe
    refine lv_aload_n hx hb (show decode code 385 = .ok (.aload_n 1, 1) by decide +kernel) rfl (lv_at hl 1 rfl) ?_
    refine lc_arg (n := n) (j := 1) (jc := 1) (pc := 386) hx hb hX hbl hbA hS (lv_at hl 0 rfl) (lv_at hl 4 rfl) (by omega) hL (by decide) (by decide +kernel) (by decide +kernel) (by decide +kernel) (by decide +kernel) (by decide +kernel) ?_
    refine lv_aload_n hx hb (show decode code 392 = .ok (.aload_n 3, 1) by decide +kernel) rfl (lv_at hl 3 rfl) ?_
    refine W.eq (g2 := F0 m 393 ls (([.ref (sm_ad (Dg, cI, cZ, adC) 60), .int (xs (n + 1)), .ref ao] : List Value).reverse ++ [])) rfl ?_
    refine lc_H (G := (Dg, cI, cZ, adC)) (k := 0) (ix := 61) (wm := sm_ws shM (Dg, cI, cZ, adM) [] Mm) hx hb hml hown hts (lh_co4B l (Dg, cI, cZ, adC) cL _ ao f h1 hr1 h2 h3 hr0 h4 h5) (sm_mem1 940 (by decide +kernel) (by decide +kernel)) (sm_mem1 938 (by decide +kernel) (by decide +kernel)) (sm_mem1 939 (by decide +kernel) (by decide +kernel)) (sm_mem1 102 (by decide +kernel) (by decide +kernel)) ⟨by decide +kernel, by decide +kernel, by decide +kernel⟩ hKL hP hD hS hA hGc hxk (Nat.le_of_ble_eq_true rfl) (Nat.le_of_ble_eq_true rfl) (by show cells + 0 ≤ 601024; omega) (by show slots + 6 * 0 ≤ 7293034; omega) hl.1 (Nat.le_of_ble_eq_true rfl) (show decode code 393 = .ok (.invokestatic 61, 3) by decide +kernel) (fun H locs hP hD hS => ?_)
    refine W.eq (g2 := F0 m 396 ls [.int 0]) rfl ?_
    refine lv_istore hx hb (show decode code 396 = .ok (.istore 5, 2) by decide +kernel) hl (by decide) rfl ?_
    clear hl
    intro ls hl
    replace hl : lv_has ls 7 [(5, .int 0), (0, .ref b), (1, .ref (adC 60)), (2, .ref (adM 1)), (3, .ref ao), (4, .int (nI n))] := hl
    refine W.eq (g2 := F0 m 398 ls []) rfl ?_
    refine lv_aload_n hx hb (show decode code 398 = .ok (.aload_n 2, 1) by decide +kernel) rfl (lv_at hl 3 rfl) ?_
    refine lc_arg (n := n) (j := 1) (jc := 1) (pc := 399) hx hb hX hbl hbA hS (lv_at hl 1 rfl) (lv_at hl 5 rfl) (by omega) hL (by decide) (by decide +kernel) (by decide +kernel) (by decide +kernel) (by decide +kernel) (by decide +kernel) ?_
    refine W.eq (g2 := F0 m 405 ls ((([.int (xs (n + 1))] : List Value).map (sm_cz (sm_ad (Dg, cI, cZ, adM)))).reverse ++ .ref (sm_ad (Dg, cI, cZ, adM) (0 + 1)) :: [])) rfl ?_
    refine lc_M (G := (Dg, cI, cZ, adM)) (wo := lc_o cL ao (vp_updL f 0 (bgM M6 40 6).toInt64)) (d := 8) (ix := 63) hx hb hml hown hts (m60 g1) pq60 (sm_mem1 1372 (by decide +kernel) (by decide +kernel)) (sm_mem1 1373 (by decide +kernel) (by decide +kernel)) (sm_mem1 1374 (by decide +kernel) (by decide +kernel)) (T := tF9) (N := 84) rfl rfl (hKL.sub [0, 1] rfl) hP hD hS hA hGm (Nat.le_of_ble_eq_true rfl) (Nat.le_of_ble_eq_true rfl) (by show cells + 0 ≤ 601024; omega) (by show slots + 6 * 0 ≤ 7293034; omega) hl.1 rfl (Nat.le_of_ble_eq_true rfl) (show decode code 405 = .ok (.invokevirtual 63, 3) by decide +kernel) (fun H locs hP hD hS => ?_)
    refine W.eq (g2 := F0 m 408 ls [.int bb]) rfl ?_
    refine lv_istore hx hb (show decode code 408 = .ok (.istore 6, 2) by decide +kernel) hl (by decide) rfl ?_
    clear hl
    intro ls hl
    replace hl : lv_has ls 7 [(6, .int bb), (5, .int 0), (0, .ref b), (1, .ref (adC 60)), (2, .ref (adM 1)), (3, .ref ao), (4, .int (nI n))] := hl
    refine W.eq (g2 := F0 m 410 ls []) rfl ?_
    refine lv_aload_n hx hb (show decode code 410 = .ok (.aload_n 2, 1) by decide +kernel) rfl (lv_at hl 4 rfl) ?_
    refine W.eq (g2 := F0 m 411 ls ((([] : List Value).map (sm_cz (sm_ad (Dg, cI, cZ, adM)))).reverse ++ .ref (sm_ad (Dg, cI, cZ, adM) (0 + 1)) :: [])) rfl ?_
    refine lc_M (G := (Dg, cI, cZ, adM)) (wo := lc_o cL ao (vp_updL f 0 (bgM M6 40 6).toInt64)) (d := 0) (ix := 53) hx hb hml hown hts (m15 g2) pq15 (sm_mem1 1282 (by decide +kernel) (by decide +kernel)) (sm_mem1 1283 (by decide +kernel) (by decide +kernel)) (sm_mem1 1284 (by decide +kernel) (by decide +kernel)) (T := tF9) (N := 84) rfl rfl (hKL.sub [0, 1] rfl) hP hD hS hA hGm (Nat.le_of_ble_eq_true rfl) (Nat.le_of_ble_eq_true rfl) (by show cells + 0 ≤ 601024; omega) (by show slots + 6 * 0 ≤ 7293034; omega) hl.1 rfl (Nat.le_of_ble_eq_true rfl) (show decode code 411 = .ok (.invokevirtual 53, 3) by decide +kernel) (fun H locs hP hD hS => ?_)
    refine W.eq (g2 := F0 m 414 ls [.int 0]) rfl ?_
    refine lv_iload hx hb (show decode code 414 = .ok (.iload 5, 2) by decide +kernel) (lv_at hl 1 rfl) ?_
    refine W.eq (g2 := F0 m 416 ls [.int 0, .int 0]) rfl ?_
    refine lv_icmp_eq hx hb (show decode code 416 = .ok (.if_icmp .eq 5, 3) by decide +kernel) (tgt := 421) (by decide) (fun _ => ?_) (fun h => absurd rfl h)
    refine W.eq (g2 := F0 m 421 ls []) rfl ?_
    refine lv_iload hx hb (show decode code 421 = .ok (.iload 5, 2) by decide +kernel) (lv_at hl 1 rfl) ?_
    refine W.eq (g2 := F0 m 423 ls [.int 0]) rfl ?_
    refine lv_if_ne hx hb (show decode code 423 = .ok (.ifCond .ne 15, 3) by decide +kernel) (tgt := 438) (by decide) (fun h => absurd rfl h) (fun _ => ?_)
    refine W.eq (g2 := F0 m 426 ls []) rfl ?_
    refine lv_aload_n hx hb (show decode code 426 = .ok (.aload_n 3, 1) by decide +kernel) rfl (lv_at hl 5 rfl) ?_
    refine lv_iconst (v := 0) hx hb (show decode code 427 = .ok (.iconst 0, 1) by decide +kernel) (by decide) ?_
    refine va_lald (tys := lh_tys (Dg, cI, cZ, adC) cL) hx hb hKL hP 120 2 lc_at rfl (vp_in_iff.mpr (by decide)) (show decode code 428 = .ok (.laload, 1) by decide +kernel) ?_
    refine lv_iload hx hb (show decode code 429 = .ok (.iload 6, 2) by decide +kernel) (lv_at hl 0 rfl) ?_
    refine lv_i2l hx hb (show decode code 431 = .ok (.i2l, 1) by decide +kernel) rfl ?_
    refine W.lcmp hx hb (show decode code 432 = .ok (.lcmp, 1) by decide +kernel) ?_
    rw [← hbb]
    rw [show lg_cmp (vp_updL f 0 (bgM M6 40 6).toInt64 (0 : Int32).toNatClampNeg) (bgM M6 40 6).toInt64 = 0 from lc_cmp]
    refine lv_if_eq hx hb (show decode code 433 = .ok (.ifCond .eq 5, 3) by decide +kernel) (tgt := 438) (by decide) (fun _ => ?_) (fun h => absurd rfl h)
    refine W.eq (g2 := F0 m 438 ls []) rfl ?_
    refine lv_goto hx hb (show decode code 438 = .ok (.goto 286, 3) by decide +kernel) (tgt := 724) (by decide) ?_
    exact W.widen (by omega) (by omega) (kk (vp_updL f 0 (bgM M6 40 6).toInt64) _ (bgM M6) Mm2 _ _ _ hp hP hD hS (lv_sub hl [2, 3, 4, 5, 6] rfl))
