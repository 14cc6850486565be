/-! the law's two helpers: their call of a method that throws -/
theorem lh_tab {L : List ExceptionTableEntry} {q : List (Nat × Nat × Nat × Nat)} (h : L.map (fun h => (h.startPc, h.endPc, h.handlerPc, h.catchType)) = q) : L = q.map (fun z => ⟨z.1, z.2.1, z.2.2.1, z.2.2.2⟩) := by
  subst h
  induction L with
  | nil => rfl
  | cons a L ih => rw [List.map_cons, List.map_cons, ← ih]
theorem xe_blind {G : sm_G} {sz : Nat} {x : Int32} {D : sm_D} {M : sm_M} : FrameBlind (xe_P G sz x D M) := by
  intro a U g mk h
  obtain ⟨h0, h1, h2, h3, h4, h5, h6⟩ := h
  refine ⟨h0, h1, h2, va_K.moved (u := U) (U := U.calling g mk a) (Vm.Alike.refl U.vm) h3, h4, fun q hq => ?_, xt_K.moved (u := U) (U := U.calling g mk a) (Vm.Alike.refl U.vm) h6⟩
  obtain ⟨q1, q2⟩ := h5 q hq
  exact ⟨va_Z.moved (u := U) (U := U.calling g mk a) (Vm.Alike.refl U.vm) q1, va_T.moved (u := U) (U := U.calling g mk a) (Vm.Alike.refl U.vm) q2⟩
section
variable {p : Program} {l : Launch} {e : Env} {R : Room} {s : State} {m : MethodId} {args : Array Value} {below : List Frame} {meth : Method} {c : Code} {H : Heap} {locs : List Loc} {cells slots : Nat} {Q : State → Prop}
variable {cc : ByteArray} {ls : Array Slot} {pc : Nat} {G : sm_G} {A : Nat → Prop} {D D' : sm_D} {M M1 : sm_M} {wr : va_W}
theorem lh_throw {own cls nm : String} {nL ix maxL : Nat} {x : Int32} {y : MethodName} {bytes : ByteArray} {rest : List Value} {pre post : List ExceptionTableEntry} {row : ExceptionTableEntry}
    (hx : p.tables.exec = Jvm.exec) (hb : c.code = cc) (hml : c.maxLocals = nL) (hown : s.vm.findClass own = some m.cls) (hts : ∀ w ∈ smT, w.before args s = true)
    (hK : va_K G.1 smCl (sm_tys G) s) (hP : va_P G.1 smCl (sm_ws shC G D M ++ wr) H) (hD : va_D A (sm_ws shC G D M ++ wr)) (hS : va_S A s.heap H locs) (hA : ∀ q, s.heap.size ≤ q → A q) (hG : sm_sta smSa G A s s.heap) (hxk : xt_K A s s.heap)
    (hM : xt_Met l y (Cond.code y bytes maxL (some .int) :: smT) xe_rm (xe_P G H.size x D M) (xt_Q cls (xe_B G D' M1 (va_A (sm_ws shC G D M) H.size)) (va_A (sm_ws shC G D M) H.size)) 1 6 (va_A (sm_ws shC G D M) H.size))
    (w0 : Cond.code y bytes maxL (some .int) ∈ smT) (w1 : Cond.methodLink own ix y ∈ smT) (w2 : Cond.instanceMethod y ∈ smT) (w3 : Cond.selects "TypedMill" y y ∈ smT) (w4 : Cond.initialized y.cls ∈ smT) (hyc : y.cls = "TypedMill")
    (hd : y.cls ≠ "java/lang/invoke/MethodHandle" ∧ y.cls ≠ "java/lang/invoke/VarHandle" ∧ (parseMethodDescriptor y.desc).map (fun d => d.parameters.length) = some 1)
    (hfr : 131 ≤ R.frames) (hlo : 8419 + maxL ≤ R.locals) (hce : cells + 1 ≤ R.cells) (hsl : slots + 6 ≤ R.slots) (hsz : ls.size = nL) (hsum : (rest.map fun v => v.category).sum ≤ 8) (hdg : decode cc pc = .ok (.invokevirtual ix, 3))
    (hsplit : c.exceptionTable.toList = pre ++ row :: post) (hpass : ∀ y ∈ pre, y.catchType ≠ 0 ∧ ∃ nm', (Cond.classLink own y.catchType nm').before args s = true ∧ xt_no cls nm' s) (hcov : covers row pc = true) (h0 : row.catchType ≠ 0)
    (hlk : (Cond.classLink own row.catchType nm).before args s = true) (hcast : (Cond.castable cls nm).before args s = true)
    (kk : ∀ (z : Nat) (H1 : Heap) (locs1 : List Loc), va_P G.1 smCl (sm_ws shC G D' M1 ++ wr) H1 → va_D A (sm_ws shC G D' M1 ++ wr) → va_S A s.heap H1 locs1 → W p l e R s m args below meth c H1 locs1 (cells + 1) (slots + 6) Q (F0 m row.handlerPc ls [.ref z])) :
    W p l e R s m args below meth c H locs cells slots Q (F0 m pc ls (([.int x] : List Value).reverse ++ .ref (sm_ad G (59 + 1)) :: rest)) := by
  have hA1 : ∀ q, va_A (sm_ws shC G D M) H.size q → A q := by
    intro q hq
    rcases hq with ⟨k, e', hq⟩ | hq
    · exact (wc_left hP hD).2.2 k _ hq
    · exact hA q (Nat.le_trans hS.1 hq)
  obtain ⟨hP0, hD0⟩ := wc_left hP hD
  have hgood : ∀ w ∈ wsV own ix "TypedMill" y (Cond.code y bytes maxL (some .int) :: smT), w ∈ smT ∧ ((w.onTables && w.keeps) = true ∨ ∃ ty, w = .arrayClass ty) := by
    intro w hw
    have hin : w ∈ smT := by
      simp only [wsV, List.mem_append, List.mem_cons, List.not_mem_nil, or_false] at hw
      rcases hw with (rfl | rfl | rfl | rfl) | (rfl | hw)
      · exact w1
      · exact w2
      · exact w3
      · rw [← hyc]; exact w4
      · exact w0
      · exact hw
    exact ⟨hin, good_of_word (sm_good w hin)⟩
  have hj : shC[59]? = some (2, 0, [(1, 1), (1, 9), (1, 16), (1, 18), (1, 24), (1, 31), (1, 33), (2, 0), (2, 1)]) := rfl
  have hc0 : smCl[0]? = some ("TypedMill", tF0, 9) := rfl
  have hrec : ∃ cellB : Cell, H[sm_ad G (59 + 1)]? = some cellB ∧ cellB.vm.isStatics = false ∧ s.vm.findClass "TypedMill" = some cellB.cls := va_recv hK hP0 hc0 (sm_ws_at hj)
  refine xt_catch (As := [.int x]) (b := sm_ad G (59 + 1)) (rm := xe_rm) (mc := 1) (ms := 6) (A := A) ⟨hx, hb, hml, hown, hts⟩ hM (cwV (R := R) (rm := xe_rm) (mc := 1) (ms := 6) 1 hts hgood rfl rfl rfl ⟨hyc, hd⟩ ⟨hfr, by show 8 + (maxL + 11) + 8400 ≤ R.locals; omega⟩)
    ⟨xe_blind, hrec, fun U hU hW => ?_⟩ rfl hsz hsum hdg ⟨hce, hsl⟩ hS hA1 hsplit hpass hcov h0 hlk hcast (fun z t H1 locs1 ht _ hB hz hk hS1 => ?_)
  · refine ⟨rfl, by rw [hU], by rw [hU]; exact hP0, va_K.moved hW.alike hK, hD0.weaken (fun _ _ _ _ => trivial), sm_sta.to hG hS hA1 hU hW.alike, ?_⟩
    rw [hU]
    exact ((hxk.kept hS.2.1).narrow hA1).moved hW.alike
  · obtain ⟨hP1, -, hD1⟩ := hB
    rw [ht] at hP1
    obtain ⟨hP2, hD2⟩ := wc_join hP hD hk hA1 hP1 hD1
    exact kk z H1 locs1 hP2 hD2 hS1
end
