/-! the law's own walk: single steps -/
theorem lc_permP {D : va_G} {cl : List vw_C} {a b : va_W} {H : Heap} (h : a.Perm b) (hP : va_P D cl a H) : va_P D cl b H := by
  intro k q hq
  obtain ⟨i, hi⟩ := List.mem_iff_getElem?.mp (h.mem_iff.mpr (List.mem_of_getElem? hq))
  exact hP i q hi
theorem lc_nodup {a : va_W} : (∀ (i j : Nat) (x y : Nat × va_E), a[i]? = some x → a[j]? = some y → x.1 = y.1 → i = j) ↔ (a.map (fun q => q.1)).Nodup := by
  unfold List.Nodup
  rw [List.pairwise_iff_getElem]
  constructor
  · intro h i j hi hj hij he
    rw [List.length_map] at hi hj
    rw [List.getElem_map, List.getElem_map] at he
    have := h i j _ _ (List.getElem?_eq_getElem hi) (List.getElem?_eq_getElem hj) he
    omega
  · intro h i j x y hi hj hxy
    obtain ⟨h1, e1⟩ := List.getElem?_eq_some_iff.mp hi
    obtain ⟨h2, e2⟩ := List.getElem?_eq_some_iff.mp hj
    by_cases h3 : i < j
    · refine absurd ?_ (h i j (by rw [List.length_map]; exact h1) (by rw [List.length_map]; exact h2) h3)
      rw [List.getElem_map, List.getElem_map, e1, e2]; exact hxy
    · by_cases h4 : j < i
      · refine absurd ?_ (h j i (by rw [List.length_map]; exact h2) (by rw [List.length_map]; exact h1) h4)
        rw [List.getElem_map, List.getElem_map, e1, e2]; exact hxy.symm
      · omega
theorem lc_permD {A : Nat → Prop} {a b : va_W} (h : a.Perm b) (hD : va_D A a) : va_D A b := by
  refine ⟨lc_nodup.mpr ((h.map (fun q => q.1)).nodup_iff.mp (lc_nodup.mp hD.1)), fun k q hq => ?_⟩
  obtain ⟨i, hi⟩ := List.mem_iff_getElem?.mp (h.mem_iff.mpr (List.mem_of_getElem? hq))
  exact hD.2 i q hi
theorem lc_swap {α : Type} (a b c : List α) : (a ++ (b ++ c)).Perm ((a ++ c) ++ b) := by
  rw [List.append_assoc]
  exact List.Perm.append_left a List.perm_append_comm
def lc_o (cL : ClassId) (ao : Nat) (f : Nat → Int64) : va_W := [(ao, .inl (cL, 1, .inr (.inl f)))]
section
variable {p : Program} {l : Launch} {e : Env} {R : Room} {s : State} {m : MethodId} {args : Array Value} {below : List Frame} {meth : Method} {c : Code} {H : Heap} {locs : List Loc} {cells slots : Nat} {Q : State → Prop}
variable {cc : ByteArray} {ls : Array Slot} {pc : Nat} {A : Nat → Prop} {rest : List Value}
/-- a call on the reference -/
theorem lc_M {own : String} {G : sm_G} {Mm Mm' : sm_M} {r : Int32} {wc wo : va_W} {nL ix d : Nat} {f : sm_I} {fs : List (Nat × Nat)} {t : List Value} (hx : p.tables.exec = Jvm.exec) (hb : c.code = cc) (hml : c.maxLocals = nL) (hown : s.vm.findClass own = some m.cls) (hts : ∀ w ∈ smT, w.before args s = true)
    (hM : sm_MJ smT smCl smSa shM f d (.ref (0 + 1) :: t) [] Mm (r, [], Mm')) (hq : sm_PQ f) (w1 : Cond.methodLink own ix (sm_Iy f) ∈ smT) (w2 : Cond.instanceMethod (sm_Iy f) ∈ smT) (w3 : Cond.selects (sm_Iy f).cls (sm_Iy f) (sm_Iy f) ∈ smT) {T : u_T} {N : Nat} (hc : smCl[sm_Io f]? = some ((sm_Iy f).cls, T, N)) (hj : shM[0]? = some (2, sm_Io f, fs))
    (hK : va_K G.1 smCl (sm_tys G) s) (hP : va_P G.1 smCl (wc ++ (sm_ws shM G [] Mm ++ wo)) H) (hD : va_D A (wc ++ (sm_ws shM G [] Mm ++ wo))) (hS : va_S A s.heap H locs) (hA : ∀ q, s.heap.size ≤ q → A q) (hst : sm_sta smSa G A s s.heap)
    (hfr : d + 1 ≤ R.frames) (hlo : 83 + d * 64 ≤ R.locals) (hcl : cells ≤ R.cells) (hsl : slots ≤ R.slots) (hsz : ls.size = nL) (hn : t.length = sm_In f) (hsum : (rest.map fun v => v.category).sum ≤ 8) (hdg : decode cc pc = .ok (.invokevirtual ix, 3))
    (kk : ∀ (H1 : Heap) (locs1 : List Loc), va_P G.1 smCl (wc ++ (sm_ws shM G [] Mm' ++ wo)) H1 → va_D A (wc ++ (sm_ws shM G [] Mm' ++ wo)) → va_S A s.heap H1 locs1 → W p l e R s m args below meth c H1 locs1 cells slots Q (F0 m (pc + 3) ls ((sm_rv (sm_Ir f) r).toList ++ rest))) :
    W p l e R s m args below meth c H locs cells slots Q (F0 m pc ls ((t.map (sm_cz (sm_ad G))).reverse ++ .ref (sm_ad G (0 + 1)) :: rest)) := by
  refine wc_V (wr := wo ++ wc) (j := 0) hx hb hml hown hts hM hq w1 w2 w3 hc hj hK (by rw [← List.append_assoc]; exact nk_rotP hP) (by rw [← List.append_assoc]; exact nk_rotD hD) hS hA hst hfr hlo hcl hsl hsz hn hsum hdg (fun H1 locs1 hP1 hD1 hS1 => ?_)
  rw [← List.append_assoc] at hP1 hD1
  exact kk H1 locs1 (nk_rotP hP1) (nk_rotD hD1) hS1
/-- a place of the script -/
theorem lc_arg {b L n j : Nat} {xs : Nat → Int32} {jc : Int} (hx : p.tables.exec = Jvm.exec) (hb : c.code = cc) (hX : va_X b L xs s s.heap) (hbl : b < s.heap.size) (hbA : ¬ A b) (hS : va_S A s.heap H locs)
    (hl0 : ls[0]? = some (.val (.ref b))) (hl4 : ls[4]? = some (.val (.int (nI n)))) (hn : n + j < L) (hL : L ≤ 3072) (hjc : Int32.ofInt jc = nI j)
    (d0 : decode cc pc = .ok (.aload_n 0, 1)) (d1 : decode cc (pc + 1) = .ok (.iload 4, 2)) (d2 : decode cc (pc + 3) = .ok (.iconst jc, 1)) (d3 : decode cc (pc + 4) = .ok (.iadd, 1)) (d4 : decode cc (pc + 5) = .ok (.iaload, 1))
    (kk : W p l e R s m args below meth c H locs cells slots Q (F0 m (pc + 6) ls (.int (xs (n + j)) :: rest))) : W p l e R s m args below meth c H locs cells slots Q (F0 m pc ls rest) := by
  refine lv_aload_n hx hb d0 rfl hl0 ?_
  refine lv_iload hx hb d1 hl4 ?_
  refine lv_iconst hx hb d2 hjc ?_
  refine lv_iadd hx hb d3 ?_
  rw [nI_add]
  refine va_sld hx hb hX hbl hbA hS (vp_in_iff.mpr ?_) d4 ?_
  · rw [nI_toInt (by omega)]; omega
  · rw [nI_clamp (by omega)]; exact kk
/-- the call of a helper -/
theorem lc_callS {T : State} (X : Stand p l e R s m args below meth c T locs cells slots) (hexec : p.tables.exec = Jvm.exec) {own : String} {index : Nat} {y : MethodName} {bytes : ByteArray} {maxL : Nat} {ret : Option FieldType} {hh : List (Nat × Nat × Nat × Nat)}
    (hown : s.vm.findClass own = some m.cls) (hlink : (Cond.methodLink own index y).before args s = true) (hstat : (Cond.static y).before args s = true) (hinit : (Cond.initialized y.cls).before args s = true)
    (hcode : (Cond.codeWith y bytes maxL ret hh).before args s = true) (hy : y.cls ≠ "java/lang/invoke/MethodHandle" ∧ y.cls ≠ "java/lang/invoke/VarHandle")
    {W : Nat} {Pre : Pt → Array Value → Prop} {Post : Pt → Array Value → Option Value → Pt → Prop} (hK : Back l R p e below s args y 3 W Pre Post)
    {g : JFrame} (hg : g.method = m) (hsize : g.locals.size = c.maxLocals) {argsL rest : List Value} (hlen : ∀ sig, parseMethodDescriptor y.desc = some sig → argsL.length = sig.parameters.length)
    (hstack : g.stack = argsL.reverse ++ rest) (hW : 2 * g.monitorRoom + (rest.map fun v => v.category).sum ≤ W) (hdg : decode c.code g.pc = .ok (.invokestatic index, 3))
    (hpre : ∀ vm₁, s.WarmedH vm₁ → Pre ⟨T.setVm vm₁, locs, cells, slots⟩ argsL.toArray) :
    ∃ (v : Option Value) (vm₁ : Vm) (B : Pt), s.WarmedH vm₁ ∧ Stand p l e R s m args below meth c B.U B.locs B.cells B.slots ∧ Post ⟨T.setVm vm₁, locs, cells, slots⟩ argsL.toArray v B ∧
      ∀ target, Steps p.tables e below (B.U.setTop { g with pc := g.pc + 3, stack := v.toList ++ rest }) target → Steps p.tables e below (T.setTop g) target := by
  obtain ⟨mk, methM, cM, hnamed, hmethM, -, -, -, -, -, -, hsigM⟩ := Cond.codeWith_spec hcode
  have hstatic : methM.isStatic = true := Cond.static_spec hnamed hmethM hstat
  obtain ⟨kP, hkP, -⟩ := className_of_methodNamed hnamed
  have hinitP : kP.init = .initialized := Cond.initialized_spec (findClass_of_methodNamed hnamed) hkP hinit
  obtain ⟨vm₁, X₁, hstep₁⟩ := X.invokestatic hexec hown hlink hnamed hmethM hstatic hkP hinitP hy (g := g) hg (argsL := argsL) (rest := rest) (hlen _ hsigM) hstack hdg
  obtain ⟨v, B, X', hpost, hsteps⟩ := hK m meth c ⟨T.setVm vm₁, locs, cells, slots⟩ { g with stack := rest } (.invokestatic index) mk argsL.toArray X₁ hg hsize hdg hW (X₁.named hnamed) (hpre vm₁ X₁.warmed)
  exact ⟨v, vm₁, B, X₁.warmed, X', hpost, fun target h => hstep₁ _ fun acts => by rw [doInvoke_state]; exact hsteps.trans h⟩
theorem lh_blind {G : sm_G} {cL : ClassId} {sz ao : Nat} {f : Nat → Int64} {x : Int32} {D : sm_D} {M : sm_M} : FrameBlind (lh_P G cL sz ao f x D M) := by
  intro a U g mk h
  obtain ⟨h0, h1, h2, h3, h4, h5, h6⟩ := h
  refine ⟨h0, h1, h2, va_K.moved (u := U) (U := U.calling g mk a) (Vm.Alike.refl U.vm) h3, h4, fun q hq => ?_, xt_K.moved (u := U) (U := U.calling g mk a) (Vm.Alike.refl U.vm) h6⟩
  obtain ⟨q1, q2⟩ := h5 q hq
  exact ⟨va_Z.moved (u := U) (U := U.calling g mk a) (Vm.Alike.refl U.vm) q1, va_T.moved (u := U) (U := U.calling g mk a) (Vm.Alike.refl U.vm) q2⟩
set_option maxRecDepth 100000 in
theorem lc_H {own : String} {G : sm_G} {cL : ClassId} {ao k nL ix : Nat} {f f' : Nat → Int64} {x r : Int32} {D D' : sm_D} {Mc Mc' : sm_M} {wm : va_W} {y : MethodName} {bytes : ByteArray} {hh : List (Nat × Nat × Nat × Nat)}
    (hx : p.tables.exec = Jvm.exec) (hb : c.code = cc) (hml : c.maxLocals = nL) (hown : s.vm.findClass own = some m.cls) (hts : ∀ w ∈ smT, w.before args s = true)
    (hM : Met l y (Cond.codeWith y bytes 4 (some .int) hh :: smT) (lh_rm k) (lh_P G cL H.size ao f x D Mc) (lh_Q G cL ao r D' Mc' f' (va_A (lh_w G cL ao f D Mc) H.size)) k (6 * k) (va_A (lh_w G cL ao f D Mc) H.size))
    (w0 : Cond.codeWith y bytes 4 (some .int) hh ∈ smT) (w1 : Cond.methodLink own ix y ∈ smT) (w2 : Cond.static y ∈ smT) (w3 : Cond.initialized y.cls ∈ smT)
    (hd : y.cls ≠ "java/lang/invoke/MethodHandle" ∧ y.cls ≠ "java/lang/invoke/VarHandle" ∧ (parseMethodDescriptor y.desc).map (fun d => d.parameters.length) = some 3)
    (hK : va_K G.1 smCl (lh_tys G cL) s) (hP : va_P G.1 smCl (sm_ws shC G D Mc ++ (wm ++ lc_o cL ao f)) H) (hD : va_D A (sm_ws shC G D Mc ++ (wm ++ lc_o cL ao f))) (hS : va_S A s.heap H locs) (hA : ∀ q, s.heap.size ≤ q → A q) (hG : sm_sta smSa G A s s.heap) (hxk : xt_K A s s.heap)
    (hfr : 135 ≤ R.frames) (hlo : 8623 ≤ R.locals) (hce : cells + k ≤ R.cells) (hsl : slots + 6 * k ≤ R.slots) (hsz : ls.size = nL) (hsum : (rest.map fun v => v.category).sum ≤ 8) (hdg : decode cc pc = .ok (.invokestatic ix, 3))
    (kk : ∀ (H1 : Heap) (locs1 : List Loc), va_P G.1 smCl (sm_ws shC G D' Mc' ++ (wm ++ lc_o cL ao f')) H1 → va_D A (sm_ws shC G D' Mc' ++ (wm ++ lc_o cL ao f')) → va_S A s.heap H1 locs1 → W p l e R s m args below meth c H1 locs1 (cells + k) (slots + 6 * k) Q (F0 m (pc + 3) ls (.int r :: rest))) :
    W p l e R s m args below meth c H locs cells slots Q (F0 m pc ls (([.ref (sm_ad G 60), .int x, .ref ao] : List Value).reverse ++ rest)) := by
  have hP1 : va_P G.1 smCl (lh_w G cL ao f D Mc ++ wm) H := lc_permP (lc_swap _ _ _) hP
  have hD1 : va_D A (lh_w G cL ao f D Mc ++ wm) := lc_permD (lc_swap _ _ _) hD
  obtain ⟨hP0, hD0⟩ := wc_left hP1 hD1
  have hA1 : ∀ q, va_A (lh_w G cL ao f D Mc) H.size q → A q := by
    intro q hq
    rcases hq with ⟨k, e', hq⟩ | hq
    · exact hD0.2 k _ hq
    · exact hA q (Nat.le_trans hS.1 hq)
  have hgood : GoodIn smT (Cond.codeWith y bytes 4 (some .int) hh :: smT) := by
    intro w hw
    have hin : w ∈ smT := by
      rcases List.mem_cons.mp hw with rfl | hw
      · exact w0
      · exact hw
    exact ⟨hin, good_of_word (sm_good w hin)⟩
  have hBk : Back l R p e below s args y 3 8 (PreOf R k (6 * k) (lh_P G cL H.size ao f x D Mc)) (PostOf (lh_Q G cL ao r D' Mc' f' (va_A (lh_w G cL ao f D Mc) H.size)) k (6 * k) (va_A (lh_w G cL ao f D Mc) H.size)) :=
    va_backW (bytes := bytes) (maxL := 4) (ret := some .int) (hh := hh) hM lh_blind rfl rfl (by show 134 + 1 ≤ R.frames; omega) (by show 8 + (4 + 11) + 8600 ≤ R.locals; omega) (pay_in hts hgood) List.mem_cons_self (fun a' U hW => word_at hW (Or.inl (by first | rfl | simp [Cond.onTables, Cond.keeps, Cond.steady])) (hts _ w3))
  intro T hT X
  obtain ⟨v, vm₁, ⟨U', l2, c2, s2⟩, hW₁, X', ⟨g', mk, t, L, e1, e2, hq, h1, hL, h2, h3⟩, st⟩ := lc_callS X hx (bytes := bytes) (maxL := 4) (ret := some .int) (hh := hh) hown (hts _ w1) (hts _ w2) (hts _ w3) (hts _ w0) ⟨hd.1, hd.2.1⟩ hBk (g := F0 m pc ls (([.ref (sm_ad G 60), .int x, .ref ao] : List Value).reverse ++ rest)) rfl (hsz.trans hml.symm) (argsL := [.ref (sm_ad G 60), .int x, .ref ao]) (rest := rest)
    (fun sig h => by have h2 := hd.2.2; rw [h] at h2; exact (Option.some.inj h2).symm) rfl (lv_room hsum) (by rw [hb]; exact hdg)
    (fun vm₁ hW₁ => ⟨hce, hsl, rfl, by show T.heap.size = H.size; rw [hT], by show va_P _ _ _ T.heap; rw [hT]; exact hP0, va_K.moved hW₁.alike hK, hD0.weaken (fun _ _ _ _ => trivial), sm_sta.to hG hS hA1 hT hW₁.alike, by
      show xt_K _ (T.setVm vm₁) T.heap
      rw [hT]; exact ((hxk.kept hS.2.1).narrow hA1).moved hW₁.alike⟩)
  dsimp only [Pt.U, Pt.locs, Pt.cells, Pt.slots] at X' e1 e2 h1 h2 h3 st
  subst h1; subst h2; subst h3
  obtain ⟨⟨r', u, hv, hr', hPt, hKt, hDt⟩, hz, hkp⟩ := hq
  cases hv
  subst hr'
  have hz' : H.size ≤ t.heap.size := by have := hz; rw [show ((T.setVm vm₁).calling g' mk _).heap = H from hT] at this; exact this
  have hkp' : ∀ q : Nat, q < H.size → ¬ va_A (lh_w G cL ao f D Mc) H.size q → t.heap[q]? = H[q]? := by
    intro q h1 h2
    have := hkp q (by rw [show ((T.setVm vm₁).calling g' mk _).heap = H from hT]; exact h1) h2
    rw [show ((T.setVm vm₁).calling g' mk _).heap = H from hT] at this
    exact this
  obtain ⟨hP2, hD2⟩ := wc_join hP1 hD1 hkp' hA1 hPt hDt
  have hP3 : va_P G.1 smCl (sm_ws shC G D' Mc' ++ (wm ++ lc_o cL ao f')) t.heap := lc_permP (lc_swap _ _ _).symm hP2
  have hD3 : va_D A (sm_ws shC G D' Mc' ++ (wm ++ lc_o cL ao f')) := lc_permD (lc_swap _ _ _).symm hD2
  obtain ⟨tt, a1, b1⟩ := kk t.heap (locs ++ L) hP3 hD3 ⟨Nat.le_trans hS.1 hz', fun q h1 h2 => by rw [hkp' q (Nat.lt_of_lt_of_le h1 hS.1) (fun z => h2 (hA1 q z))]; exact hS.2.1 q h1 h2, fun q hq => by
      rcases List.mem_append.mp hq with h | h
      · exact hS.2.2 q h
      · exact hA1 _ (hL q h)⟩ U' e1 X'
  exact ⟨tt, st tt a1, b1⟩
end
