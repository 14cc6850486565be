/-! calls of contracted methods out of a walk by hand: the callee's cells stand first, the others stay -/
theorem wc_join {A0 : Nat → Prop} {D : va_G} {cl : List vw_C} {wc wr w1 : va_W} {H H1 : Heap} (hP : va_P D cl (wc ++ wr) H) (hD : va_D A0 (wc ++ wr)) (hk : ∀ q : Nat, q < H.size → ¬ va_A wc H.size q → H1[q]? = H[q]?) (hF : ∀ q, va_A wc H.size q → A0 q) (hP1 : va_P D cl w1 H1) (hD1 : va_D (va_A wc H.size) w1) : va_P D cl (w1 ++ wr) H1 ∧ va_D A0 (w1 ++ wr) := by
  have apart : ∀ (k : Nat) (q : Nat × va_E), wr[k]? = some q → q.1 < H.size ∧ ¬ va_A wc H.size q.1 := by
    intro k q hq
    have h1 : (wc ++ wr)[wc.length + k]? = some q := by rw [List.getElem?_append_right (by omega), Nat.add_sub_cancel_left]; exact hq
    have hl := (hP _ q h1).lt
    refine ⟨hl, fun h => ?_⟩
    rcases h with ⟨k2, e, h⟩ | h
    · have hk2 := (List.getElem?_eq_some_iff.mp h).1
      have h2 : (wc ++ wr)[k2]? = some (q.1, e) := by rw [List.getElem?_append_left hk2]; exact h
      have := hD.1 _ _ q (q.1, e) h1 h2 rfl
      omega
    · omega
  have hDr : va_D A0 wr := by
    refine ⟨fun i j x y hi hj hxy => ?_, fun k q hq => ?_⟩
    · have h1 : (wc ++ wr)[wc.length + i]? = some x := by rw [List.getElem?_append_right (by omega), Nat.add_sub_cancel_left]; exact hi
      have h2 : (wc ++ wr)[wc.length + j]? = some y := by rw [List.getElem?_append_right (by omega), Nat.add_sub_cancel_left]; exact hj
      have := hD.1 _ _ x y h1 h2 hxy
      omega
    · have h1 : (wc ++ wr)[wc.length + k]? = some q := by rw [List.getElem?_append_right (by omega), Nat.add_sub_cancel_left]; exact hq
      exact hD.2 _ q h1
  refine ⟨hP1.app (fun k q hq => ?_), (hD1.weaken (fun k q _ h => hF q.1 h)).app hDr (fun i j x y hx hy hxy => ?_)⟩
  · have h1 : (wc ++ wr)[wc.length + k]? = some q := by rw [List.getElem?_append_right (by omega), Nat.add_sub_cancel_left]; exact hq
    obtain ⟨g1, g2⟩ := apart k q hq
    exact (hP _ q h1).kept (hk q.1 g1 g2)
  · exact (apart j y hy).2 (by rw [← hxy]; exact hD1.2 i x hx)
theorem wc_left {A0 : Nat → Prop} {D : va_G} {cl : List vw_C} {wc wr : va_W} {H : Heap} (hP : va_P D cl (wc ++ wr) H) (hD : va_D A0 (wc ++ wr)) : va_P D cl wc H ∧ va_D A0 wc := by
  refine ⟨fun k q hq => ?_, ⟨fun i j x y hi hj hxy => ?_, fun k q hq => ?_⟩⟩
  · exact hP k q (by rw [List.getElem?_append_left (List.getElem?_eq_some_iff.mp hq).1]; exact hq)
  · exact hD.1 i j x y (by rw [List.getElem?_append_left (List.getElem?_eq_some_iff.mp hi).1]; exact hi) (by rw [List.getElem?_append_left (List.getElem?_eq_some_iff.mp hj).1]; exact hj) hxy
  · exact hD.2 k q (by rw [List.getElem?_append_left (List.getElem?_eq_some_iff.mp hq).1]; exact hq)
section
variable {p : Program} {l : Launch} {e : Env} {R : Room} {s : State} {m : MethodId} {args : Array Value} {below : List Frame} {meth : Method} {c : Code} {H : Heap} {locs : List Loc} {cells slots : Nat} {Q : State → Prop}
variable {sh : List sm_Sh} {G : sm_G} {A : Nat → Prop} {D : sm_D} {M : sm_M} {Rv : sm_S} {wr : va_W}
/-- behind the call -/
theorem wc_back {a : Array Value} {pc : Nat} {ls : Array Slot} {rest st0 : List Value} {ret : Option FieldType}
    (hr : va_Run p l e R s m args below meth c H locs cells slots 0 0 (F0 m pc ls st0) rest (sm_Qc smCl sh G (va_A (sm_ws sh G D M) H.size) ret Rv a) (va_A (sm_ws sh G D M) H.size))
    (hP : va_P G.1 smCl (sm_ws sh G D M ++ wr) H) (hD : va_D A (sm_ws sh G D M ++ wr)) (hS : va_S A s.heap H locs) (hA : ∀ q, s.heap.size ≤ q → A q)
    (kk : ∀ (H1 : Heap) (locs1 : List Loc), va_P G.1 smCl (sm_ws sh G Rv.2.1 Rv.2.2 ++ wr) H1 → va_D A (sm_ws sh G Rv.2.1 Rv.2.2 ++ wr) → va_S A s.heap H1 locs1 → W p l e R s m args below meth c H1 locs1 cells slots Q (F0 m (pc + 3) ls ((sm_rv ret Rv.1).toList ++ rest))) : W p l e R s m args below meth c H locs cells slots Q (F0 m pc ls st0) := by
  have hA1 : ∀ q, va_A (sm_ws sh G D M) H.size q → A q := by
    intro q hq
    rcases hq with ⟨k, e', hq⟩ | hq
    · exact (wc_left hP hD).2.2 k _ hq
    · exact hA q (Nat.le_trans hS.1 hq)
  intro T hT X
  obtain ⟨v, st₀, t, T', L, h0, X', hL, e1, e2, ⟨hv, ⟨hP1, hK1, hD1⟩, hz, hk⟩, st⟩ := hr T hT X
  cases hv
  rw [h0] at hz hk
  rw [← e1] at hP1 hk hz
  obtain ⟨hP2, hD2⟩ := wc_join hP hD hk hA1 hP1 hD1
  obtain ⟨t2, a1, b1⟩ := kk T'.heap (locs ++ L) hP2 hD2
    ⟨Nat.le_trans hS.1 hz, fun q h1 h2 => by rw [hk q (Nat.lt_of_lt_of_le h1 hS.1) (fun z => h2 (hA1 q z))]; exact hS.2.1 q h1 h2, fun q hq => by
      rcases List.mem_append.mp hq with h | h
      · exact hS.2.2 q h
      · exact hA1 _ (hL q h)⟩ T' rfl X'
  exact ⟨t2, st t2 a1, b1⟩
theorem wc_pre {as : List Value} (hP : va_P G.1 smCl (sm_ws sh G D M ++ wr) H) (hD : va_D A (sm_ws sh G D M ++ wr)) (hS : va_S A s.heap H locs) (hA : ∀ q, s.heap.size ≤ q → A q) (hK : va_K G.1 smCl (sm_tys G) s) (hst : sm_sta smSa G A s s.heap) (U : State) (hU : U.heap = H) (hW : s.WarmedH U.vm) : sm_Pc smCl smSa sh G H.size as D M (as.map (sm_cz (sm_ad G))).toArray U := by
  obtain ⟨h1, h2⟩ := wc_left hP hD
  refine ⟨rfl, by rw [hU], by rw [hU]; exact h1, va_K.moved hW.alike hK, h2.weaken (fun _ _ _ _ => trivial), sm_sta.to hst hS (fun q hq => ?_) hU hW.alike⟩
  rcases hq with ⟨k, e', hq⟩ | hq
  · exact h2.2 k _ hq
  · exact hA q (Nat.le_trans hS.1 hq)
/-- a virtual call -/
theorem wc_V {cc : ByteArray} {own : String} {nL ix d j pc : Nat} {f : sm_I} {fs : List (Nat × Nat)} {t rest : List Value} {ls : Array Slot} (hx : p.tables.exec = Jvm.exec) (hb : c.code = cc) (hml : c.maxLocals = nL) (hown : s.vm.findClass own = some m.cls) (hts : ∀ w ∈ smT, w.before args s = true)
    (hM : sm_MJ smT smCl smSa sh f d (.ref (j + 1) :: t) D M Rv) (hq : sm_PQ f) (w1 : Cond.methodLink own ix (sm_Iy f) ∈ smT) (w2 : Cond.instanceMethod (sm_Iy f) ∈ smT) (w3 : Cond.selects (sm_Iy f).cls (sm_Iy f) (sm_Iy f) ∈ smT) {T : u_T} {N : Nat} (hc : smCl[sm_Io f]? = some ((sm_Iy f).cls, T, N)) (hj : sh[j]? = some (2, sm_Io f, fs))
    (hK : va_K G.1 smCl (sm_tys G) s) (hP : va_P G.1 smCl (sm_ws sh G D M ++ wr) H) (hD : va_D A (sm_ws sh G D M ++ wr)) (hS : va_S A s.heap H locs) (hA : ∀ q, s.heap.size ≤ q → A q) (hst : sm_sta smSa G A s s.heap)
    (hfr : d + 1 ≤ R.frames) (hlo : 83 + d * 64 ≤ R.locals) (hcl : cells ≤ R.cells) (hsl : slots ≤ R.slots) (hsz : ls.size = nL) (hn : t.length = sm_In f) (hsum : (rest.map fun v => v.category).sum ≤ 8) (hdg : decode cc pc = .ok (.invokevirtual ix, 3))
    (kk : ∀ (H1 : Heap) (locs1 : List Loc), va_P G.1 smCl (sm_ws sh G Rv.2.1 Rv.2.2 ++ wr) H1 → va_D A (sm_ws sh G Rv.2.1 Rv.2.2 ++ wr) → va_S A s.heap H1 locs1 → W p l e R s m args below meth c H1 locs1 cells slots Q (F0 m (pc + 3) ls ((sm_rv (sm_Ir f) Rv.1).toList ++ rest))) :
    W p l e R s m args below meth c H locs cells slots Q (F0 m pc ls ((t.map (sm_cz (sm_ad G))).reverse ++ .ref (sm_ad G (j + 1)) :: rest)) := by
  obtain ⟨g1, g2, -, g4, g5, g6, -⟩ := hq
  have hgood : ∀ w ∈ wsV own ix (sm_Iy f).cls (sm_Iy f) (sm_wd smT f), w ∈ smT ∧ ((w.onTables && w.keeps) = true ∨ ∃ ty, w = .arrayClass ty) := by
    intro w hw
    have hin : w ∈ smT := by
      simp only [wsV, sm_wd, List.mem_append, List.mem_cons, List.not_mem_nil, or_false] at hw
      rcases hw with (rfl | rfl | rfl | rfl) | (rfl | hw)
      · exact w1
      · exact w2
      · exact w3
      · exact g2
      · exact g1
      · exact hw
    exact ⟨hin, good_of_word (sm_good w hin)⟩
  have hrec : ∃ cellB : Cell, H[sm_ad G (j + 1)]? = some cellB ∧ cellB.vm.isStatics = false ∧ s.vm.findClass (sm_Iy f).cls = some cellB.cls := va_recv hK (wc_left hP hD).1 hc (sm_ws_at hj)
  have hrun := va_runV (l := l) (e := e) (below := below) (meth := meth) (locs := locs) (cells := cells) (slots := slots) (R := R) (b := sm_ad G (j + 1)) (As := t.map (sm_cz (sm_ad G))) (rest := rest) (g := F0 m pc ls ((t.map (sm_cz (sm_ad G))).reverse ++ .ref (sm_ad G (j + 1)) :: rest)) (H := H)
    ⟨hx, hb, hml, hown, hts⟩ (hM l G H.size)
    (cwV (R := R) (rm := sm_rm d) (mc := 0) (ms := 0) (sm_In f) hts hgood rfl rfl rfl ⟨rfl, g4⟩ ⟨hfr, by show 8 + (sm_Il f + 11) + d * 64 ≤ R.locals; omega⟩)
    ⟨sm_blind, hrec, fun U hU hW => wc_pre (as := .ref (j + 1) :: t) hP hD hS hA hK hst U hU hW⟩
    rfl (by simpa using hn) hsz rfl (lv_room hsum) hdg ⟨hcl, hsl⟩
  exact wc_back hrun hP hD hS hA kk
/-- a static call -/
theorem wc_S {cc : ByteArray} {own : String} {nL ix d pc : Nat} {f : sm_I} {t rest : List Value} {ls : Array Slot} (hx : p.tables.exec = Jvm.exec) (hb : c.code = cc) (hml : c.maxLocals = nL) (hown : s.vm.findClass own = some m.cls) (hts : ∀ w ∈ smT, w.before args s = true)
    (hM : sm_MJ smT smCl smSa sh f d t D M Rv) (hq : sm_PQ f) (w1 : Cond.methodLink own ix (sm_Iy f) ∈ smT) (w2 : Cond.static (sm_Iy f) ∈ smT)
    (hK : va_K G.1 smCl (sm_tys G) s) (hP : va_P G.1 smCl (sm_ws sh G D M ++ wr) H) (hD : va_D A (sm_ws sh G D M ++ wr)) (hS : va_S A s.heap H locs) (hA : ∀ q, s.heap.size ≤ q → A q) (hst : sm_sta smSa G A s s.heap)
    (hfr : d + 1 ≤ R.frames) (hlo : 83 + d * 64 ≤ R.locals) (hcl : cells ≤ R.cells) (hsl : slots ≤ R.slots) (hsz : ls.size = nL) (hn : t.length = sm_In f) (hsum : (rest.map fun v => v.category).sum ≤ 8) (hdg : decode cc pc = .ok (.invokestatic ix, 3))
    (kk : ∀ (H1 : Heap) (locs1 : List Loc), va_P G.1 smCl (sm_ws sh G Rv.2.1 Rv.2.2 ++ wr) H1 → va_D A (sm_ws sh G Rv.2.1 Rv.2.2 ++ wr) → va_S A s.heap H1 locs1 → W p l e R s m args below meth c H1 locs1 cells slots Q (F0 m (pc + 3) ls ((sm_rv (sm_Ir f) Rv.1).toList ++ rest))) :
    W p l e R s m args below meth c H locs cells slots Q (F0 m pc ls ((t.map (sm_cz (sm_ad G))).reverse ++ rest)) := by
  obtain ⟨g1, g2, -, g4, g5, g6, -⟩ := hq
  have hgood : ∀ w ∈ va_wsS own ix (sm_Iy f) (sm_wd smT f), w ∈ smT ∧ ((w.onTables && w.keeps) = true ∨ ∃ ty, w = .arrayClass ty) := by
    intro w hw
    have hin : w ∈ smT := by
      simp only [va_wsS, sm_wd, List.mem_append, List.mem_cons, List.not_mem_nil, or_false] at hw
      rcases hw with (rfl | rfl | rfl) | (rfl | hw)
      · exact w1
      · exact w2
      · exact g2
      · exact g1
      · exact hw
    exact ⟨hin, good_of_word (sm_good w hin)⟩
  have hrun := va_runS (l := l) (e := e) (below := below) (meth := meth) (locs := locs) (cells := cells) (slots := slots) (R := R) (As := t.map (sm_cz (sm_ad G))) (rest := rest) (g := F0 m pc ls ((t.map (sm_cz (sm_ad G))).reverse ++ rest)) (H := H)
    ⟨hx, hb, hml, hown, hts⟩ (hM l G H.size)
    (va_cwS (R := R) (rm := sm_rm d) (mc := 0) (ms := 0) (sm_In f) hts hgood rfl rfl rfl g4 ⟨hfr, by show 8 + (sm_Il f + 11) + d * 64 ≤ R.locals; omega⟩)
    ⟨sm_blind, fun U hU hW => wc_pre (as := t) hP hD hS hA hK hst U hU hW⟩
    rfl (by simpa using hn) hsz rfl (lv_room hsum) hdg ⟨hcl, hsl⟩
  exact wc_back hrun hP hD hS hA kk
end
/-! single instructions over the cells by places -/
section
variable {p : Program} {l : Launch} {e : Env} {R : Room} {s : State} {m : MethodId} {args : Array Value} {below : List Frame} {meth : Method} {c : Code} {H H0 : Heap} {locs : List Loc} {cells slots : Nat} {Q : State → Prop}
variable {sh : List sm_Sh} {G : sm_G} {A : Nat → Prop} {D : sm_D} {M : sm_M} {cc : ByteArray} {own : String} {pc : Nat} {ls : Array Slot} {rest : List Value}
theorem hs_get {j ci k a b idx nF : Nat} {fs : List (Nat × Nat)} {C : String} {T : u_T} (hx : p.tables.exec = Jvm.exec) (hb : c.code = cc) (hown : s.vm.findClass own = some m.cls) (hts : ∀ w ∈ smT, w.before args s = true) (hK : va_K G.1 smCl (sm_tys G) s) (hP : va_P G.1 smCl (sm_ws sh G D M) H)
    (hj : sh[j]? = some (2, ci, fs)) (hk : fs[k]? = some (a, b)) (hc : smCl[ci]? = some (C, T, nF)) (hkn : k < nF) (hlk : Cond.fieldLink own idx C (T k).2.1 (T k).2.2.1 ∈ smT) (hT1 : (T k).1 = C) (hdg : decode cc pc = .ok (.getfield idx, 3))
    (kk : W p l e R s m args below meth c H locs cells slots Q (F0 m (pc + 3) ls (sm_fv (sm_ad G) D (M (j + 1)) k (a, b) :: rest))) : W p l e R s m args below meth c H locs cells slots Q (F0 m pc ls (.ref (sm_ad G (j + 1)) :: rest)) := by
  refine va_get (ws := sm_ws sh G D M) (fs := fs.mapIdx (fun k t => sm_fv (sm_ad G) D (M (j + 1)) k t)) hx hb hts (sm_vCls ci C T nF hc).1 hown hK hP j (sm_ws_at hj) hc k hkn (hts _ hlk) (fun y h9 => by rw [hT1] at h9; exact h9) ?_ hdg kk
  rw [List.getElem?_mapIdx, hk]
  rfl
theorem hs_ast {j n : Nat} {i x : Int32} {fs : List (Nat × Nat)} (hx : p.tables.exec = Jvm.exec) (hb : c.code = cc) (hK : va_K G.1 smCl (sm_tys G) s) (hP : va_P G.1 smCl (sm_ws sh G D M) H) (hD : va_D A (sm_ws sh G D M)) (hS : va_S A H0 H locs)
    (hj : sh[j]? = some (0, n, fs)) (hin : vp_in i n) (hdg : decode cc pc = .ok (.iastore, 1))
    (kk : ∀ (H1 : Heap) (locs1 : List Loc), va_P G.1 smCl (sm_ws sh G D (sm_up M (j + 1) i.toNatClampNeg x)) H1 → va_D A (sm_ws sh G D (sm_up M (j + 1) i.toNatClampNeg x)) → va_S A H0 H1 locs1 → W p l e R s m args below meth c H1 locs1 cells slots Q (F0 m (pc + 1) ls rest)) : W p l e R s m args below meth c H locs cells slots Q (F0 m pc ls (.int x :: .int i :: .ref (sm_ad G (j + 1)) :: rest)) := by
  refine va_iast (ws := sm_ws sh G D M) (f := M (j + 1)) hx hb hK hP hD hS j 0 (sm_ws_at hj) rfl hin hdg (fun H1 locs1 hP1 hD1 hS1 => ?_)
  have ew := sm_ws_up (G := G) (D := D) (M := M) (j := i.toNatClampNeg) (v := x) hj
  exact kk H1 locs1 (ew ▸ hP1) (ew ▸ hD1) hS1
theorem hs_put {j ci k b idx nF : Nat} {x : Int32} {fs : List (Nat × Nat)} {C : String} {T : u_T} (hx : p.tables.exec = Jvm.exec) (hb : c.code = cc) (hown : s.vm.findClass own = some m.cls) (hts : ∀ w ∈ smT, w.before args s = true) (hK : va_K G.1 smCl (sm_tys G) s) (hP : va_P G.1 smCl (sm_ws sh G D M) H) (hD : va_D A (sm_ws sh G D M)) (hS : va_S A H0 H locs)
    (hj : sh[j]? = some (2, ci, fs)) (hk : fs[k]? = some (0, b)) (hf : fs.length = nF) (hc : smCl[ci]? = some (C, T, nF)) (hkn : k < nF) (hlk : Cond.fieldLink own idx C (T k).2.1 (T k).2.2.1 ∈ smT) (hT1 : (T k).1 = C) (hfin : (T k).2.2.2 = false) (hty : parseFieldDescriptor (T k).2.2.1 = some .int) (hdg : decode cc pc = .ok (.putfield idx, 3))
    (kk : ∀ (H1 : Heap) (locs1 : List Loc), va_P G.1 smCl (sm_ws sh G D (sm_up M (j + 1) k x)) H1 → va_D A (sm_ws sh G D (sm_up M (j + 1) k x)) → va_S A H0 H1 locs1 → W p l e R s m args below meth c H1 locs1 cells slots Q (F0 m (pc + 3) ls rest)) : W p l e R s m args below meth c H locs cells slots Q (F0 m pc ls (.int x :: .ref (sm_ad G (j + 1)) :: rest)) := by
  obtain ⟨hu, ⟨ty0, hty0⟩, hnm⟩ := sm_vCls ci C T nF hc
  refine va_put (ws := sm_ws sh G D M) (fs := fs.mapIdx (fun k t => sm_fv (sm_ad G) D (M (j + 1)) k t)) (v := .int x) hx hb hts hu ty0 hty0 hnm hown hK hP hD hS j (sm_ws_at hj) hc k hkn (hts _ hlk) (fun y h9 => by rw [hT1] at h9; exact h9) hfin hty rfl rfl (by simpa [hf] using hkn) hdg (fun H1 locs1 hP1 hD1 hS1 => ?_)
  have ew : (sm_ws sh G D M).set j (sm_ad G (j + 1), .inr (ci, (fs.mapIdx (fun k t => sm_fv (sm_ad G) D (M (j + 1)) k t)).set k (.int x))) = sm_ws sh G D (sm_up M (j + 1) k x) := by
    rw [sm_fs_set hk (Or.inl rfl)]
    exact sm_ws_up (h := (2, ci, fs)) hj
  rw [ew] at hP1 hD1
  exact kk H1 locs1 hP1 hD1 hS1
end
