/-! THE CLAIM OUT OF ONE WALK OF THE LAW'S BODY. Your part is whole_start (and what it stands on); all else here is the same for every law, but numbers. -/
def R_law : String := "TypedMillLaw"
def lw_P (b : Addr) (xs : List Int32) (args : Array Value) (s : State) : Prop := args = #[.ref b] ∧ s.IntsAt b xs ∧ xs.length ≤ 6 ∧ (Jvm.Cond.and given_1 narrow_1).before args s = true
def lw_Q (_ : Array Value) (s : State) (o : Outcome) (t : State) : Prop := o = .returned (some (.int 1)) ∧ Framed s o t [] 600002 7302232
def lw_Z (below : List Frame) (a : Array Value) (s : State) : State → Prop := fun t => ∃ o, t.status = .running ∧ Ended t below o ∧ lw_Q a s o t
/-- the law's own end, with 1 on the stack, nothing written that was there before, its room as the claim has it -/
theorem lw_ret {p : Program} {l : Launch} {e : Env} {s : State} {m : MethodId} {below : List Frame} {meth : Method} {c : Code} {b : Nat} (hx : p.tables.exec = Jvm.exec) (hb : c.code = code) (hr : meth.sig.returnType = ret) (hlocks : meth.locks = false) {pc : Nat} {H : Heap} {ls : Array Slot} (hdg : decode code pc = .ok (.ireturn, 1)) : W p l e room_1 s m #[Value.ref b] below meth c H [] 600002 7302232 (lw_Z below #[Value.ref b] s) (F0 m pc ls [.int 1]) := by
  intro T hT X
  obtain ⟨fs, hret, hrun, hended, hW, hframe⟩ := X.leave (v := some (.int 1)) (hlocks := hlocks) (fun h => by rw [hr] at h; cases h)
  have hmeth' : T.vm.method? m = some meth := X.method'
  refine ⟨T.setFrames fs, ?_, .returned (some (.int 1)), hrun, hended, rfl, ⟨_, rfl⟩, hW, hframe⟩
  jvm_step X.here [X.here.top, hx, hb, hdg, hmeth', hr, ret, narrow_b1]
  (try refine ⟨rfl, ?_⟩); (try refine ⟨rfl, ?_⟩)
  first | (intro acts; rw [hret _ acts rfl rfl rfl]) | rw [hret _ _ rfl rfl rfl]
  exact Steps.refl _
/-- what holds at the law's entry: the machine, the code, the tables' words (any of lw_tbl by 'hts w (by decide +kernel)'), the script of L ints xs at the cell b, what the Statement gives of the start (any of its parts by flat_of_before) -/
def lw_At (p : Program) (s : State) (m : MethodId) (meth : Method) (c : Code) (b L : Nat) (xs : Nat → Int32) : Prop :=
  p.tables.exec = Jvm.exec ∧ c.code = code ∧ meth.sig.returnType = ret ∧ c.maxLocals = 7 ∧ s.vm.findClass R_law = some m.cls ∧ (∀ w ∈ lw_tbl, w.before #[Value.ref b] s = true) ∧ va_X b L xs s s.heap ∧ b < s.heap.size ∧ meth.locks = false ∧ (Jvm.Cond.and given_1 narrow_1).before #[Value.ref b] s = true
theorem lc_lim {L n : Nat} (hL : L ≤ 3072) (hn : n ≤ 4000) : (Int32.ofNat L - 6 < nI n) ↔ L < n + 6 := by
  rw [Int32.lt_iff_toInt_lt, nI_toInt (by omega)]
  have h : (Int32.ofNat L - 6).toInt = (L : Int) - 6 := by
    by_cases h6 : 6 ≤ L
    · obtain ⟨k, rfl⟩ : ∃ k, L = k + 6 := ⟨L - 6, by omega⟩
      have : Int32.ofNat (k + 6) - 6 = nI k := by
        show nI (k + 6) - nI 6 = nI k
        rw [← nI_add, Int32.add_sub_cancel]
      rw [this, nI_toInt (by omega)]; omega
    · match L, h6 with
      | 0, _ => decide
      | 1, _ => decide
      | 2, _ => decide
      | 3, _ => decide
      | 4, _ => decide
      | 5, _ => decide
      | k + 6, h => exact absurd (Nat.le_add_left 6 k) h
  rw [h]; omega
theorem lc_and15 (v : Int32) : ∃ o : Nat, o < 16 ∧ v &&& 15 = nI o := by
  refine ⟨(v.toBitVec &&& 15#32).toNat, ?_, ?_⟩
  · rw [BitVec.toNat_and]
    exact Nat.lt_of_le_of_lt Nat.and_le_right (by decide)
  · apply Int32.toBitVec_inj.mp
    rw [Int32.toBitVec_and]
    show _ = (Int32.ofNat _).toBitVec
    rw [Int32.toBitVec_ofNat']
    simp
set_option maxRecDepth 100000 in
set_option maxHeartbeats 4000000 in
theorem lw_loop {p : Program} {l : Launch} {e : Env} {s : State} {m : MethodId} {below : List Frame} {meth : Method} {c : Code} {b L ao : Nat} {xs : Nat → Int32} {Dg : va_G} {cI cZ cL : ClassId} {adC adM : Nat → Nat} {Rel : Nat → sm_D → sm_M → sm_M → Prop}
    (hx : p.tables.exec = Jvm.exec) (hb : c.code = code) (hr : meth.sig.returnType = ret) (hlocks : meth.locks = false) (hml : c.maxLocals = 7) (hown : s.vm.findClass "TypedMillLaw" = some m.cls) (hts : ∀ w ∈ smT, w.before #[Value.ref b] s = true) (hfl : l.flags = flags0) (hX : va_X b L xs s s.heap) (hbl : b < s.heap.size)
    (hKL : va_K Dg smCl (lh_tys (Dg, cI, cZ, adC) cL) s) (hGc : sm_sta smSa (Dg, cI, cZ, adC) (fun q => s.heap.size ≤ q) s s.heap) (hGm : sm_sta smSa (Dg, cI, cZ, adM) (fun q => s.heap.size ≤ q) s s.heap) (hxk : xt_K (fun q => s.heap.size ≤ q) s s.heap) (hL : L ≤ 3072)
    (hRD : ∀ j D Mc Mm, Rel j D Mc Mm → ∃ d0 d1 d2 d3 d4, D = [d0, d1, d2, d3, d4] ∧ [d0] ∈ gC)
    (hRS : ∀ j d0 d1 d2 d3 d4 Mc Mm, 6 * j + 6 ≤ L → Rel j [d0, d1, d2, d3, d4] Mc Mm → lw_step ((xs (6 * j) &&& 15).toNatClampNeg) (xs (6 * j + 1)) (xs (6 * j + 2)) (xs (6 * j + 3)) (xs (6 * j + 4)) (xs (6 * j + 5)) d0 d1 d2 d3 d4 Mc Mm (Rel (j + 1))) :
    ∀ (rem j : Nat), j ≤ 512 → L < 6 * j + 6 * rem + 6 → lc_go p l e s m below meth c (lw_Z below #[Value.ref b] s) (fun q => s.heap.size ≤ q) b (6 * j) ao Dg cI cZ cL adC adM (121 + j) (44447 + 6 * j) 23 (Rel j) := by
  intro rem
  induction rem with
  | zero =>
    intro j hj hlt f D Mc Mm H locs ls hp hP hD hS hl
    replace hl : lv_has ls 7 [(0, .ref b), (1, .ref (adC 60)), (2, .ref (adM 1)), (3, .ref ao), (4, .int (nI (6 * j)))] := hl
    refine lv_iload hx hb (show decode code 23 = .ok (.iload 4, 2) by decide +kernel) (lv_at hl 4 rfl) ?_
    refine lv_aload_n hx hb (show decode code 25 = .ok (.aload_n 0, 1) by decide +kernel) rfl (lv_at hl 0 rfl) ?_
    refine va_slen hx hb hX hbl (Nat.not_le.mpr hbl) hS (show decode code 26 = .ok (.arraylength, 1) by decide +kernel) ?_
    refine lv_bipush (v := 6) hx hb (show decode code 27 = .ok (.bipush 6, 2) by decide +kernel) (by decide) ?_
    refine lv_isub hx hb (show decode code 29 = .ok (.isub, 1) by decide +kernel) ?_
    refine lv_icmp_gt hx hb (show decode code 30 = .ok (.if_icmp .gt 700, 3) by decide +kernel) (tgt := 730) (by decide) (fun _ => ?_) (fun h => absurd ((lc_lim hL (by omega)).mpr (by omega)) h)
    refine lv_iconst (v := 1) hx hb (show decode code 730 = .ok (.iconst 1, 1) by decide +kernel) (by decide) ?_
    refine va_forget hS.2.2 ?_
    exact W.widen (by omega) (by omega) (lw_ret hx hb hr hlocks (by decide +kernel))
  | succ rem ih =>
    intro j hj hlt f D Mc Mm H locs ls hp hP hD hS hl
    replace hl : lv_has ls 7 [(0, .ref b), (1, .ref (adC 60)), (2, .ref (adM 1)), (3, .ref ao), (4, .int (nI (6 * j)))] := hl
    refine lv_iload hx hb (show decode code 23 = .ok (.iload 4, 2) by decide +kernel) (lv_at hl 4 rfl) ?_
    refine lv_aload_n hx hb (show decode code 25 = .ok (.aload_n 0, 1) by decide +kernel) rfl (lv_at hl 0 rfl) ?_
    refine va_slen hx hb hX hbl (Nat.not_le.mpr hbl) hS (show decode code 26 = .ok (.arraylength, 1) by decide +kernel) ?_
    refine lv_bipush (v := 6) hx hb (show decode code 27 = .ok (.bipush 6, 2) by decide +kernel) (by decide) ?_
    refine lv_isub hx hb (show decode code 29 = .ok (.isub, 1) by decide +kernel) ?_
    refine lv_icmp_gt hx hb (show decode code 30 = .ok (.if_icmp .gt 700, 3) by decide +kernel) (tgt := 730) (by decide) (fun _ => ?_) (fun hno => ?_)
    · refine lv_iconst (v := 1) hx hb (show decode code 730 = .ok (.iconst 1, 1) by decide +kernel) (by decide) ?_
      refine va_forget hS.2.2 ?_
      exact W.widen (by omega) (by omega) (lw_ret hx hb hr hlocks (by decide +kernel))
    · have hn : 6 * j + 6 ≤ L := by
        have := mt (lc_lim hL (show 6 * j ≤ 4000 by omega)).mpr hno
        omega
      refine W.eq (g2 := F0 m 33 ls []) rfl ?_
      refine lv_aload_n hx hb (show decode code 33 = .ok (.aload_n 0, 1) by decide +kernel) rfl (lv_at hl 0 rfl) ?_
      refine lv_iload hx hb (show decode code 34 = .ok (.iload 4, 2) by decide +kernel) (lv_at hl 4 rfl) ?_
      refine va_sld hx hb hX hbl (Nat.not_le.mpr hbl) hS (vp_in_iff.mpr (by rw [nI_toInt (by omega)]; omega)) (show decode code 36 = .ok (.iaload, 1) by decide +kernel) ?_
      rw [nI_clamp (by omega)]
      refine lv_bipush (v := 15) hx hb (show decode code 37 = .ok (.bipush 15, 2) by decide +kernel) (by decide) ?_
      refine lv_iand hx hb (show decode code 39 = .ok (.iand, 1) by decide +kernel) ?_
      obtain ⟨d0, d1, d2, d3, d4, rfl, hd0⟩ := hRD j D Mc Mm hp
      have hst := hRS j d0 d1 d2 d3 d4 Mc Mm hn hp
      have hbA : ¬ s.heap.size ≤ b := Nat.not_le.mpr hbl
      have hA : ∀ q, s.heap.size ≤ q → s.heap.size ≤ q := fun _ h => h
      have kk : lc_go p l e s m below meth c (lw_Z below #[Value.ref b] s) (fun q => s.heap.size ≤ q) b (6 * j) ao Dg cI cZ cL adC adM (121 + j + 1) (44447 + 6 * j + 6) 724 (Rel (j + 1)) := by
        intro f D Mc Mm H locs ls hp hP hD hS hl
        refine lv_iinc (k := 4) (v := nI (6 * (j + 1))) hx hb (show decode code 724 = .ok (.iinc 4 6, 3) by decide +kernel) hl rfl ?_ (by decide) rfl ?_
        · show nI (6 * j) + nI 6 = nI (6 * (j + 1))
          rw [nI_add, Nat.mul_succ]
        · intro ls hl
          refine lv_goto hx hb (show decode code 727 = .ok (.goto (-704), 3) by decide +kernel) (tgt := 23) (by decide) ?_
          exact ih (j + 1) (by omega) (by omega) f D Mc Mm H locs ls hp hP hD hS (lv_sub hl [1, 2, 3, 4, 0] rfl)
      obtain ⟨o, ho, hxo⟩ := lc_and15 (xs (6 * j))
      rw [hxo, nI_clamp (by omega)] at hst
      rw [hxo]
      match o, ho, hst with
      | 0, _, hst => exact lv_tableIn hx hb (show decode code 40 = .ok (.tableswitch 684 0 15 #[80, 141, 166, 239, 276, 332, 345, 401, 412, 461, 522, 535, 572, 609, 634, 647], 80) by decide +kernel) (by decide) (by decide) (show _ = some 80 from rfl) (tgt := 120) (by decide) (lw_c0 (A := (fun q => s.heap.size ≤ q)) hx hb hml hown hts hfl hX hbl hbA hA hKL hGc hGm hxk (by omega) hL hd0 (by omega) (by omega) hP hD hS hl kk hst)
      | 1, _, hst => exact lv_tableIn hx hb (show decode code 40 = .ok (.tableswitch 684 0 15 #[80, 141, 166, 239, 276, 332, 345, 401, 412, 461, 522, 535, 572, 609, 634, 647], 80) by decide +kernel) (by decide) (by decide) (show _ = some 141 from rfl) (tgt := 181) (by decide) (lw_c1 (A := (fun q => s.heap.size ≤ q)) hx hb hml hown hts hfl hX hbl hbA hA hKL hGc hGm hxk (by omega) hL hd0 (by omega) (by omega) hP hD hS hl kk hst)
      | 2, _, hst => exact lv_tableIn hx hb (show decode code 40 = .ok (.tableswitch 684 0 15 #[80, 141, 166, 239, 276, 332, 345, 401, 412, 461, 522, 535, 572, 609, 634, 647], 80) by decide +kernel) (by decide) (by decide) (show _ = some 166 from rfl) (tgt := 206) (by decide) (lw_c2 (A := (fun q => s.heap.size ≤ q)) hx hb hml hown hts hfl hX hbl hbA hA hKL hGc hGm hxk (by omega) hL hd0 (by omega) (by omega) hP hD hS hl kk hst)
      | 3, _, hst => exact lv_tableIn hx hb (show decode code 40 = .ok (.tableswitch 684 0 15 #[80, 141, 166, 239, 276, 332, 345, 401, 412, 461, 522, 535, 572, 609, 634, 647], 80) by decide +kernel) (by decide) (by decide) (show _ = some 239 from rfl) (tgt := 279) (by decide) (lw_c3 (A := (fun q => s.heap.size ≤ q)) hx hb hml hown hts hfl hX hbl hbA hA hKL hGc hGm hxk (by omega) hL hd0 (by omega) (by omega) hP hD hS hl kk hst)
      | 4, _, hst => exact lv_tableIn hx hb (show decode code 40 = .ok (.tableswitch 684 0 15 #[80, 141, 166, 239, 276, 332, 345, 401, 412, 461, 522, 535, 572, 609, 634, 647], 80) by decide +kernel) (by decide) (by decide) (show _ = some 276 from rfl) (tgt := 316) (by decide) (lw_c4 (A := (fun q => s.heap.size ≤ q)) hx hb hml hown hts hfl hX hbl hbA hA hKL hGc hGm hxk (by omega) hL hd0 (by omega) (by omega) hP hD hS hl kk hst)
      | 5, _, hst => exact lv_tableIn hx hb (show decode code 40 = .ok (.tableswitch 684 0 15 #[80, 141, 166, 239, 276, 332, 345, 401, 412, 461, 522, 535, 572, 609, 634, 647], 80) by decide +kernel) (by decide) (by decide) (show _ = some 332 from rfl) (tgt := 372) (by decide) (lw_c5 (A := (fun q => s.heap.size ≤ q)) hx hb hml hown hts hfl hX hbl hbA hA hKL hGc hGm hxk (by omega) hL hd0 (by omega) (by omega) hP hD hS hl kk hst)
      | 6, _, hst => exact lv_tableIn hx hb (show decode code 40 = .ok (.tableswitch 684 0 15 #[80, 141, 166, 239, 276, 332, 345, 401, 412, 461, 522, 535, 572, 609, 634, 647], 80) by decide +kernel) (by decide) (by decide) (show _ = some 345 from rfl) (tgt := 385) (by decide) (lw_c6 (A := (fun q => s.heap.size ≤ q)) hx hb hml hown hts hfl hX hbl hbA hA hKL hGc hGm hxk (by omega) hL hd0 (by omega) (by omega) hP hD hS hl kk hst)
      | 7, _, hst => exact lv_tableIn hx hb (show decode code 40 = .ok (.tableswitch 684 0 15 #[80, 141, 166, 239, 276, 332, 345, 401, 412, 461, 522, 535, 572, 609, 634, 647], 80) by decide +kernel) (by decide) (by decide) (show _ = some 401 from rfl) (tgt := 441) (by decide) (lw_c7 (A := (fun q => s.heap.size ≤ q)) hx hb hml hown hts hfl hX hbl hbA hA hKL hGc hGm hxk (by omega) hL hd0 (by omega) (by omega) hP hD hS hl kk hst)
      | 8, _, hst => exact lv_tableIn hx hb (show decode code 40 = .ok (.tableswitch 684 0 15 #[80, 141, 166, 239, 276, 332, 345, 401, 412, 461, 522, 535, 572, 609, 634, 647], 80) by decide +kernel) (by decide) (by decide) (show _ = some 412 from rfl) (tgt := 452) (by decide) (lw_c8 (A := (fun q => s.heap.size ≤ q)) hx hb hml hown hts hfl hX hbl hbA hA hKL hGc hGm hxk (by omega) hL hd0 (by omega) (by omega) hP hD hS hl kk hst)
      | 9, _, hst => exact lv_tableIn hx hb (show decode code 40 = .ok (.tableswitch 684 0 15 #[80, 141, 166, 239, 276, 332, 345, 401, 412, 461, 522, 535, 572, 609, 634, 647], 80) by decide +kernel) (by decide) (by decide) (show _ = some 461 from rfl) (tgt := 501) (by decide) (lw_c9 (A := (fun q => s.heap.size ≤ q)) hx hb hml hown hts hfl hX hbl hbA hA hKL hGc hGm hxk (by omega) hL hd0 (by omega) (by omega) hP hD hS hl kk hst)
      | 10, _, hst => exact lv_tableIn hx hb (show decode code 40 = .ok (.tableswitch 684 0 15 #[80, 141, 166, 239, 276, 332, 345, 401, 412, 461, 522, 535, 572, 609, 634, 647], 80) by decide +kernel) (by decide) (by decide) (show _ = some 522 from rfl) (tgt := 562) (by decide) (lw_c10 (A := (fun q => s.heap.size ≤ q)) hx hb hml hown hts hfl hX hbl hbA hA hKL hGc hGm hxk (by omega) hL hd0 (by omega) (by omega) hP hD hS hl kk hst)
      | 11, _, hst => exact lv_tableIn hx hb (show decode code 40 = .ok (.tableswitch 684 0 15 #[80, 141, 166, 239, 276, 332, 345, 401, 412, 461, 522, 535, 572, 609, 634, 647], 80) by decide +kernel) (by decide) (by decide) (show _ = some 535 from rfl) (tgt := 575) (by decide) (lw_c11 (A := (fun q => s.heap.size ≤ q)) hx hb hml hown hts hfl hX hbl hbA hA hKL hGc hGm hxk (by omega) hL hd0 (by omega) (by omega) hP hD hS hl kk hst)
      | 12, _, hst => exact lv_tableIn hx hb (show decode code 40 = .ok (.tableswitch 684 0 15 #[80, 141, 166, 239, 276, 332, 345, 401, 412, 461, 522, 535, 572, 609, 634, 647], 80) by decide +kernel) (by decide) (by decide) (show _ = some 572 from rfl) (tgt := 612) (by decide) (lw_c12 (A := (fun q => s.heap.size ≤ q)) hx hb hml hown hts hfl hX hbl hbA hA hKL hGc hGm hxk (by omega) hL hd0 (by omega) (by omega) hP hD hS hl kk hst)
      | 13, _, hst => exact lv_tableIn hx hb (show decode code 40 = .ok (.tableswitch 684 0 15 #[80, 141, 166, 239, 276, 332, 345, 401, 412, 461, 522, 535, 572, 609, 634, 647], 80) by decide +kernel) (by decide) (by decide) (show _ = some 609 from rfl) (tgt := 649) (by decide) (lw_c13 (A := (fun q => s.heap.size ≤ q)) hx hb hml hown hts hfl hX hbl hbA hA hKL hGc hGm hxk (by omega) hL hd0 (by omega) (by omega) hP hD hS hl kk hst)
      | 14, _, hst => exact lv_tableIn hx hb (show decode code 40 = .ok (.tableswitch 684 0 15 #[80, 141, 166, 239, 276, 332, 345, 401, 412, 461, 522, 535, 572, 609, 634, 647], 80) by decide +kernel) (by decide) (by decide) (show _ = some 634 from rfl) (tgt := 674) (by decide) (lw_c14 (A := (fun q => s.heap.size ≤ q)) hx hb hml hown hts hfl hX hbl hbA hA hKL hGc hGm hxk (by omega) hL hd0 (by omega) (by omega) hP hD hS hl kk hst)
      | 15, _, hst => exact lv_tableIn hx hb (show decode code 40 = .ok (.tableswitch 684 0 15 #[80, 141, 166, 239, 276, 332, 345, 401, 412, 461, 522, 535, 572, 609, 634, 647], 80) by decide +kernel) (by decide) (by decide) (show _ = some 647 from rfl) (tgt := 687) (by decide) (lw_c15 (A := (fun q => s.heap.size ≤ q)) hx hb hml hown hts hfl hX hbl hbA hA hKL hGc hGm hxk (by omega) hL hd0 (by omega) (by omega) hP hD hS hl kk hst)
      | k + 16, h, _ => exact absurd h (by omega)
