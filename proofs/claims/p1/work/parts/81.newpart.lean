/-! a part of an object: new, its constructor, the field that holds it -/
theorem nk_ix {a b : va_W} {k : Nat} {q : Nat × va_E} (h : (b ++ a)[k]? = some q) : (a ++ b)[if k < b.length then a.length + k else k - b.length]? = some q ∧ k < b.length + a.length := by
  have hk := (List.getElem?_eq_some_iff.mp h).1
  rw [List.length_append] at hk
  refine ⟨?_, hk⟩
  by_cases h1 : k < b.length
  · rw [if_pos h1, List.getElem?_append_right (by omega), Nat.add_sub_cancel_left]
    rw [List.getElem?_append_left h1] at h
    exact h
  · rw [if_neg h1, List.getElem?_append_left (by omega)]
    rw [List.getElem?_append_right (by omega)] at h
    exact h
theorem nk_rotP {D : va_G} {cl : List vw_C} {a b : va_W} {H : Heap} (h : va_P D cl (a ++ b) H) : va_P D cl (b ++ a) H := fun _ q hq => h _ q (nk_ix hq).1
theorem nk_rotD {A : Nat → Prop} {a b : va_W} (h : va_D A (a ++ b)) : va_D A (b ++ a) := by
  refine ⟨fun i j x y hi hj hxy => ?_, fun k q hq => h.2 _ q (nk_ix hq).1⟩
  obtain ⟨h1, l1⟩ := nk_ix hi
  obtain ⟨h2, l2⟩ := nk_ix hj
  have := h.1 _ _ x y h1 h2 hxy
  split at this <;> split at this <;> omega
theorem nk_sta {aF aP : Nat} {A A1 : Nat → Prop} {s U : State} {H : Heap} {locs : List Loc} (h : cs_sta aF aP A s s.heap) (hS : va_S A s.heap H locs) (hA : ∀ q, A1 q → A q) (hU : U.heap = H) (hal : s.vm.Alike U.vm) : cs_sta aF aP A1 U U.heap := by
  obtain ⟨h1, h2, h3, h4⟩ := h
  rw [hU]
  exact ⟨((h1.kept hS.2.1).narrow hA).moved hal, ((h2.kept hS.2.1).narrow hA).moved hal, ((h3.kept hS.2.1).narrow hA).moved hal, ((h4.kept hS.2.1).narrow hA).moved hal⟩
section
variable {p : Program} {l : Launch} {e : Env} {R : Room} {s : State} {m : MethodId} {args : Array Value} {below : List Frame} {meth : Method} {c : Code} {H : Heap} {locs : List Loc} {cells slots : Nat} {Q : State → Prop}
variable {cc : ByteArray} {D : va_G} {A : Nat → Prop} {ls : Array Slot} {pc : Nat} {cI cZ : ClassId}
theorem nk_A1 {w0 wc : va_W} (hD : va_D A (w0 ++ wc)) (hS : va_S A s.heap H locs) (hA : ∀ q, s.heap.size ≤ q → A q) : ∀ q, va_A wc H.size q → A q := by
  intro q hq
  rcases hq with ⟨k, e', hq⟩ | hq
  · exact hD.2 (w0.length + k) (q, e') (by rw [List.getElem?_append_right (by omega), Nat.add_sub_cancel_left]; exact hq)
  · exact hA q (Nat.le_trans hS.1 hq)
/-- behind a constructor -/
theorem nk_back {S : Type} {post : S → Prop} {ke : S → va_W} {wc w0 : va_W} {mc ms : Nat} {st0 rest : List Value} {a : Array Value} {tys : List (ClassId × FieldType)}
    (hr : va_Run p l e R s m args below meth c H locs cells slots mc ms (F0 m pc ls st0) rest (va_Qv post (fun u t => va_P D smCl (ke u) t.heap ∧ va_K D smCl tys t ∧ va_D (va_A wc H.size) (ke u)) (va_A wc H.size) a) (va_A wc H.size))
    (hP : va_P D smCl (w0 ++ wc) H) (hD : va_D A (w0 ++ wc)) (hS : va_S A s.heap H locs) (hA : ∀ q, s.heap.size ≤ q → A q)
    (kk : ∀ (u : S) (H1 : Heap) (locs1 : List Loc), post u → va_P D smCl (w0 ++ ke u) H1 → va_D A (w0 ++ ke u) → va_S A s.heap H1 locs1 → W p l e R s m args below meth c H1 locs1 (cells + mc) (slots + ms) Q (F0 m (pc + 3) ls rest)) : W p l e R s m args below meth c H locs cells slots Q (F0 m pc ls st0) := by
  have hA1 := nk_A1 hD hS hA
  refine va_callv hr hS (fun q _ h => hA1 q h) hA1 (fun u t H1 locs1 ht _ hp hB _ hk hS1 => ?_)
  obtain ⟨hP1, -, hD1⟩ := hB
  rw [ht] at hP1
  obtain ⟨hP2, hD2⟩ := wc_join (nk_rotP hP) (nk_rotD hD) hk hA1 hP1 hD1
  exact kk u H1 locs1 hp (nk_rotP hP2) (nk_rotD hD2) hS1
/-- the call of a constructor -/
theorem nk_call {S : Type} {own : String} {aF aP ci ixC maxL mc ms nL q : Nat} {zs As rest : List Value} {w0 : va_W} {y : MethodName} {bytes : ByteArray} {rm : Room} {Pc : Array Value → State → Prop} {post : S → Prop} {ke : S → va_W}
    (hx : p.tables.exec = Jvm.exec) (hb : c.code = cc) (hml : c.maxLocals = nL) (hown : s.vm.findClass own = some m.cls) (hts : ∀ w ∈ smT, w.before args s = true) (hK : va_K D smCl [(cI, .int), (cZ, .boolean)] s) (hsz : ls.size = nL) (hst : cs_sta aF aP A s s.heap)
    (hP : va_P D smCl (w0 ++ [(q, .inr (ci, zs))]) H) (hD : va_D A (w0 ++ [(q, .inr (ci, zs))])) (hS : va_S A s.heap H locs) (hA : ∀ q, s.heap.size ≤ q → A q)
    (w3 : Cond.initialized y.cls ∈ smT) (w4 : Cond.code y bytes maxL none ∈ smT) (w5 : Cond.instanceMethod y ∈ smT) (hy1 : y.name = "<init>") (hlk : Cond.methodLink own ixC y ∈ smT ∨ va_Nw (.methodLinkNest own ixC y "TypedMill") s)
    (hd : y.cls ≠ "java/lang/invoke/MethodHandle" ∧ y.cls ≠ "java/lang/invoke/VarHandle" ∧ (parseMethodDescriptor y.desc).map (fun d => d.parameters.length) = some As.length)
    (hrc : rm.cells = mc) (hrs : rm.slots = ms) (hR : rm.frames + 1 ≤ R.frames ∧ 8 + (maxL + 11) + rm.locals ≤ R.locals) (hce : cells + mc ≤ R.cells) (hsl : slots + ms ≤ R.slots)
    (hM : Met l y (Cond.code y bytes maxL none :: smT) rm Pc (va_Qv post (fun u t => va_P D smCl (ke u) t.heap ∧ va_K D smCl [(cI, .int), (cZ, .boolean)] t ∧ va_D (va_A [(q, .inr (ci, zs))] H.size) (ke u)) (va_A [(q, .inr (ci, zs))] H.size)) mc ms (va_A [(q, .inr (ci, zs))] H.size))
    (hbl : FrameBlind Pc)
    (hpre : ∀ (U : State), U.heap = H → s.WarmedH U.vm → va_P D smCl [(q, .inr (ci, zs))] U.heap → va_K D smCl [(cI, .int), (cZ, .boolean)] U → va_D (fun _ => True) [(q, .inr (ci, zs))] → cs_sta aF aP (va_A [(q, .inr (ci, zs))] H.size) U U.heap → Pc (Value.ref q :: As).toArray U)
    (hsum : (rest.map fun v => v.category).sum ≤ 8) (hdg : decode cc pc = .ok (.invokespecial ixC, 3))
    (kk : ∀ (u : S) (H1 : Heap) (locs1 : List Loc), post u → va_P D smCl (w0 ++ ke u) H1 → va_D A (w0 ++ ke u) → va_S A s.heap H1 locs1 → W p l e R s m args below meth c H1 locs1 (cells + mc) (slots + ms) Q (F0 m (pc + 3) ls rest)) :
    W p l e R s m args below meth c H locs cells slots Q (F0 m pc ls (As.reverse ++ .ref q :: rest)) := by
  have hgood : GoodIn smT (Cond.code y bytes maxL none :: smT) := by
    intro w hw
    have hin : w ∈ smT := by
      rcases List.mem_cons.mp hw with rfl | hw
      · exact w4
      · exact hw
    exact ⟨hin, good_of_word (sm_good w hin)⟩
  have hA1 := nk_A1 hD hS hA
  obtain ⟨h1, h2⟩ := wc_left (nk_rotP hP) (nk_rotD hD)
  have hp : PreS s H Pc (.ref q :: As) := ⟨hbl, fun U hU hW => hpre U hU hW (by rw [hU]; exact h1) (va_K.moved hW.alike hK) (h2.weaken (fun _ _ _ _ => trivial)) (nk_sta hst hS hA1 hU hW.alike)⟩
  have hrun : va_Run p l e R s m args below meth c H locs cells slots mc ms (F0 m pc ls (As.reverse ++ .ref q :: rest)) rest (va_Qv post (fun u t => va_P D smCl (ke u) t.heap ∧ va_K D smCl [(cI, .int), (cZ, .boolean)] t ∧ va_D (va_A [(q, .inr (ci, zs))] H.size) (ke u)) (va_A [(q, .inr (ci, zs))] H.size) (Value.ref q :: As).toArray) (va_A [(q, .inr (ci, zs))] H.size) := by
    rcases hlk with hlk | hlk
    · exact va_runI ⟨hx, hb, hml, hown, hts⟩ hM (cwI (R := R) As.length hts hgood rfl hrc hrs (hts _ w3) (hts _ hlk) (hts _ w5) hy1 hd hR) hp rfl rfl hsz rfl (lv_room hsum) hdg ⟨hce, hsl⟩
    · exact va_runIN ⟨hx, hb, hml, hown, hts⟩ hM ⟨va_cnB (R := R) As.length hts hgood rfl hrc hrs hlk (hts _ w3) hd hR, hy1, hts _ w5⟩ hp rfl rfl hsz rfl (lv_room hsum) hdg ⟨hce, hsl⟩
  exact nk_back hrun hP hD hS hA kk
/-- a part: new, constructor, field -/
theorem nk_obj {S : Type} {aF aP o k ci NX ixN ixC ixF p2 maxL mc ms nL : Nat} {C C' : String} {T : u_T} {ty : Nat → FieldType} {zs fs As : List Value} {wr : va_W} {y : MethodName} {bytes : ByteArray} {rm : Room} {Pc : Nat → Nat → Array Value → State → Prop} {post : Nat → S → Prop} {ke : Nat → S → va_W}
    (X : cs_Cx cc "TypedMill" D cI cZ A s.heap p s m args meth c) (hml : c.maxLocals = nL) (hsz : ls.size = nL) (hl0 : ls[0]? = some (.val (.ref o))) (hst : cs_sta aF aP A s s.heap)
    (hP : va_P D smCl ((o, .inr (0, fs)) :: wr) H) (hD : va_D A ((o, .inr (0, fs)) :: wr)) (hS : va_S A s.heap H locs) (hf : fs.length = 9)
    (hc : smCl[ci]? = some (C, T, NX)) (hty : ∀ k, k < NX → parseFieldDescriptor (T k).2.2.1 = some (ty k)) (hfs : ∀ j, j < NX → defaultValue (ty j) = vp_V zs j)
    (w1 : Cond.classLink "TypedMill" ixN C ∈ smT) (w2 : Cond.instantiable C NX ∈ smT) (w3 : Cond.initialized y.cls ∈ smT) (hyC : y.cls = C)
    (w4 : Cond.code y bytes maxL none ∈ smT) (w5 : Cond.instanceMethod y ∈ smT) (hy1 : y.name = "<init>") (hlk : Cond.methodLink "TypedMill" ixC y ∈ smT ∨ va_Nw (.methodLinkNest "TypedMill" ixC y "TypedMill") s)
    (hd : y.cls ≠ "java/lang/invoke/MethodHandle" ∧ y.cls ≠ "java/lang/invoke/VarHandle" ∧ (parseMethodDescriptor y.desc).map (fun d => d.parameters.length) = some As.length)
    (hrc : rm.cells = mc) (hrs : rm.slots = ms) (hR : rm.frames + 1 ≤ R.frames ∧ 8 + (maxL + 11) + rm.locals ≤ R.locals) (hce : cells + 1 + mc ≤ R.cells) (hsl : slots + NX + ms ≤ R.slots)
    (hM : ∀ q sz, Met l y (Cond.code y bytes maxL none :: smT) rm (Pc q sz) (va_Qv (post q) (fun u t => va_P D smCl (ke q u) t.heap ∧ va_K D smCl [(cI, .int), (cZ, .boolean)] t ∧ va_D (va_A [(q, .inr (ci, zs))] sz) (ke q u)) (va_A [(q, .inr (ci, zs))] sz)) mc ms (va_A [(q, .inr (ci, zs))] sz))
    (hbl : ∀ q sz, FrameBlind (Pc q sz))
    (hpre : ∀ (q : Nat) (H1 : Heap) (U : State), U.heap = H1 → s.WarmedH U.vm → va_P D smCl [(q, .inr (ci, zs))] U.heap → va_K D smCl [(cI, .int), (cZ, .boolean)] U → va_D (fun _ => True) [(q, .inr (ci, zs))] → cs_sta aF aP (va_A [(q, .inr (ci, zs))] H1.size) U U.heap → Pc q H1.size (Value.ref q :: As).toArray U)
    (d0 : decode cc pc = .ok (.aload_n 0, 1)) (d1 : decode cc (pc + 1) = .ok (.new ixN, 3)) (d2 : decode cc (pc + 4) = .ok (.dup, 1))
    (hargs : ∀ (H1 : Heap) (cells slots : Nat) (w' : va_W) (st : List Value), va_P D smCl ((o, .inr (0, fs)) :: w') H1 → W p l e R s m args below meth c H1 locs cells slots Q (F0 m p2 ls (As.reverse ++ st)) → W p l e R s m args below meth c H1 locs cells slots Q (F0 m (pc + 5) ls st))
    (d3 : decode cc p2 = .ok (.invokespecial ixC, 3)) (d4 : decode cc (p2 + 3) = .ok (.putfield ixF, 3))
    (hk : k < 9) (hlF : Cond.fieldLink "TypedMill" ixF "TypedMill" (tF0 k).2.1 (tF0 k).2.2.1 ∈ smT) (hT1 : (tF0 k).1 = "TypedMill") (hty2 : parseFieldDescriptor (tF0 k).2.2.1 = some (.object C'))
    (kk : ∀ (q : Nat) (u : S) (H1 : Heap) (locs1 : List Loc), post q u → va_P D smCl ((o, .inr (0, fs.set k (.ref q))) :: (wr ++ ke q u)) H1 → va_D A ((o, .inr (0, fs.set k (.ref q))) :: (wr ++ ke q u)) → va_S A s.heap H1 locs1 → W p l e R s m args below meth c H1 locs1 (cells + 1 + mc) (slots + NX + ms) Q (F0 m (p2 + 3 + 3) ls [])) :
    W p l e R s m args below meth c H locs cells slots Q (F0 m pc ls []) := by
  obtain ⟨hx, hb, hts, hown, hK, hin, hA⟩ := X
  refine lv_aload_n hx hb d0 rfl hl0 ?_
  refine va_new hx hb hts (sm_vCls ci C T NX hc).1 ty hty hown (hts _ w1) (hts _ w2) (by rw [← hyC]; exact hts _ w3) hK hP hD hS hA hc hfs (by omega) (by omega) d1 (fun q H1 hP1 hD1 hS1 => ?_)
  refine lv_dup hx hb d2 rfl ?_
  refine hargs H1 _ _ (wr ++ [(q, Sum.inr (ci, zs))]) _ (by rw [← List.cons_append]; exact hP1) ?_
  refine nk_call (q := q) (ci := ci) (zs := zs) (w0 := (o, .inr (0, fs)) :: wr) (ke := ke q) (post := post q) hx hb hml hown hts hK hsz hst hP1 hD1 hS1 hA w3 w4 w5 hy1 hlk hd hrc hrs hR hce hsl (hM q H1.size) (hbl q H1.size) (fun U hU => hpre q H1 U hU) (show ((([.ref q, .ref o] : List Value)).map fun v => v.category).sum ≤ 8 from Nat.le_of_ble_eq_true rfl) d3 (fun u H2 locs2 hpo hP2 hD2 hS2 => ?_)
  obtain ⟨hu, ⟨ty0, hty0⟩, hnm⟩ := sm_vCls 0 "TypedMill" tF0 9 rfl
  by_cases hfin : (tF0 k).2.2.2 = true
  · exact va_putF (v := .ref q) hx hb hts hu ty0 hty0 hnm hown hK hP2 hD2 hS2 0 rfl rfl k hk (hts _ hlF) (fun z h9 => by rw [hT1] at h9; exact h9) hfin hin hT1 hty2 rfl rfl (by rw [hf]; exact hk) d4 (fun H3 locs3 hP3 hD3 hS3 => kk q u H3 locs3 hpo hP3 hD3 hS3)
  · exact va_put (v := .ref q) hx hb hts hu ty0 hty0 hnm hown hK hP2 hD2 hS2 0 rfl rfl k hk (hts _ hlF) (fun z h9 => by rw [hT1] at h9; exact h9) (by simpa using hfin) hty2 rfl rfl (by rw [hf]; exact hk) d4 (fun H3 locs3 hP3 hD3 hS3 => kk q u H3 locs3 hpo hP3 hD3 hS3)
/-- a field of the object as an argument -/
theorem nk_arg {o k ix : Nat} {fs : List Value} {w' : va_W} {st : List Value} {v : Value} (X : cs_Cx cc "TypedMill" D cI cZ A s.heap p s m args meth c) (hl0 : ls[0]? = some (.val (.ref o))) (hP : va_P D smCl ((o, .inr (0, fs)) :: w') H) (hk : k < 9) (hv : fs[k]? = some v)
    (hlF : Cond.fieldLink "TypedMill" ix "TypedMill" (tF0 k).2.1 (tF0 k).2.2.1 ∈ smT) (hT1 : (tF0 k).1 = "TypedMill") (d0 : decode cc pc = .ok (.aload_n 0, 1)) (d1 : decode cc (pc + 1) = .ok (.getfield ix, 3))
    (kk : W p l e R s m args below meth c H locs cells slots Q (F0 m (pc + 4) ls (v :: st))) : W p l e R s m args below meth c H locs cells slots Q (F0 m pc ls st) := by
  obtain ⟨hx, hb, hts, hown, hK, hin, hA⟩ := X
  refine lv_aload_n hx hb d0 rfl hl0 ?_
  exact va_get hx hb hts (sm_vCls 0 "TypedMill" tF0 9 rfl).1 hown hK hP 0 rfl rfl k hk (hts _ hlF) (fun y h9 => by rw [hT1] at h9; exact h9) hv d1 kk
end
