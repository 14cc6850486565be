/-! one step of the small machine is a walk of the real one -/
section
variable {ρ : Type} {v : ρ} {a b : Int32} {t f : Option ρ}
theorem sm_cn_eq (h : sm_cn .eq a b t f = some v) : (a = b → t = some v) ∧ (¬ a = b → f = some v) := by
  unfold sm_cn at h
  exact ⟨fun q => by simpa [q] using h, fun q => by simpa [q] using h⟩
theorem sm_cn_ne (h : sm_cn .ne a b t f = some v) : (¬ a = b → t = some v) ∧ (a = b → f = some v) := by
  unfold sm_cn at h
  exact ⟨fun q => by simpa [q] using h, fun q => by simpa [q] using h⟩
theorem sm_cn_lt (h : sm_cn .lt a b t f = some v) : (a < b → t = some v) ∧ (¬ a < b → f = some v) := by
  replace h : (if a < b then t else f) = some v := h
  exact ⟨fun q => by rw [if_pos q] at h; exact h, fun q => by rw [if_neg q] at h; exact h⟩
theorem sm_cn_ge (h : sm_cn .ge a b t f = some v) : (b ≤ a → t = some v) ∧ (¬ b ≤ a → f = some v) := by
  replace h : (if a < b then f else t) = some v := h
  exact ⟨fun q => by rw [if_neg (Int32.not_lt.mpr q)] at h; exact h, fun q => by rw [if_pos (Int32.not_le.mp q)] at h; exact h⟩
theorem sm_cn_gt (h : sm_cn .gt a b t f = some v) : (b < a → t = some v) ∧ (¬ b < a → f = some v) := by
  replace h : (if b < a then t else f) = some v := h
  exact ⟨fun q => by rw [if_pos q] at h; exact h, fun q => by rw [if_neg q] at h; exact h⟩
theorem sm_cn_le (h : sm_cn .le a b t f = some v) : (a ≤ b → t = some v) ∧ (¬ a ≤ b → f = some v) := by
  replace h : (if b < a then f else t) = some v := h
  exact ⟨fun q => by rw [if_neg (Int32.not_lt.mpr q)] at h; exact h, fun q => by rw [if_pos (Int32.not_le.mp q)] at h; exact h⟩
end
theorem sm_code_at {α : Type} {l rest : List α} {i : Nat} {r : α} (h : l.drop i = r :: rest) : l[i]? = some r ∧ rest = l.drop (i + 1) := by
  constructor
  · have := congrArg (fun z => z[0]?) h
    simpa [List.getElem?_drop] using this
  · have := congrArg List.tail h
    simpa [List.tail_drop] using this.symm
theorem sm_seq_at : ∀ {l : List sm_R} {i : Nat} {r q : sm_R}, sm_seq l = true → l[i]? = some r → l[i + 1]? = some q → sm_pc q = sm_pc r + sm_ln r
  | [], _, _, _, _, h, _ => by simp at h
  | [_], i, _, _, _, _, h => by simp at h
  | x :: y :: t, i, r, q, hs, h1, h2 => by
    unfold sm_seq at hs
    simp only [Bool.and_eq_true, decide_eq_true_eq] at hs
    cases i with
    | zero =>
      simp at h1 h2
      subst h1; subst h2
      exact hs.1
    | succ i =>
      rw [List.getElem?_cons_succ] at h1 h2
      exact sm_seq_at hs.2 h1 h2
theorem sm_sw_inv {ρ : Type} {a : Int32} {d : Nat} {k : Nat → Option ρ} {v : ρ} : ∀ {ts : List (Int32 × Nat)}, sm_sw a d k ts = some v → (∃ (n : Nat) (t : Nat), ts[n]? = some (a, t) ∧ (∀ m, m < n → ∀ q, ts[m]? = some q → q.1 ≠ a) ∧ k t = some v) ∨ ((∀ q ∈ ts, q.1 ≠ a) ∧ k d = some v)
  | [], h => Or.inr ⟨fun q hq => (by cases hq), h⟩
  | (c, t) :: r, h => by
    unfold sm_sw at h
    split at h
    · rename_i he
      subst he
      exact Or.inl ⟨0, t, rfl, fun m hm => by omega, h⟩
    · rename_i he
      rcases sm_sw_inv h with ⟨n, t', h1, h2, h3⟩ | ⟨h1, h2⟩
      · refine Or.inl ⟨n + 1, t', h1, fun m hm q hq => ?_, h3⟩
        cases m with
        | zero => cases hq; exact fun e => he e.symm
        | succ m => exact h2 m (by omega) q hq
      · refine Or.inr ⟨fun q hq => ?_, h2⟩
        rcases List.mem_cons.mp hq with rfl | hq
        · exact fun e => he e.symm
        · exact h1 q hq
theorem sm_okts_at {code : List sm_R} {pc : Nat} : ∀ {offs : List Int} {ts : List (Int32 × Nat)} {lo : Int}, sm_okts code pc lo offs ts = true → offs.length = ts.length ∧ ∀ (n : Nat) (c : Int32) (t : Nat), ts[n]? = some (c, t) → c.toInt = lo + (n : Int) ∧ ∃ off, offs[n]? = some off ∧ sm_tg code pc off t = true
  | [], [], _, _ => ⟨rfl, fun n c t h => by simp at h⟩
  | [], _ :: _, _, h => by cases h
  | _ :: _, [], _, h => by cases h
  | off :: offs, (c, t) :: ts, lo, h => by
    unfold sm_okts at h
    simp only [Bool.and_eq_true, decide_eq_true_eq] at h
    obtain ⟨h1, h2⟩ := sm_okts_at h.2
    refine ⟨by simp [h1], fun n c' t' hn => ?_⟩
    cases n with
    | zero => cases hn; exact ⟨by rw [h.1.1]; simp, off, rfl, h.1.2⟩
    | succ n =>
      rw [List.getElem?_cons_succ] at hn
      obtain ⟨h3, o2, h4, h5⟩ := h2 n c' t' hn
      exact ⟨by rw [h3]; omega, o2, h4, h5⟩
theorem sm_oklk_at {ρ : Type} {code : List sm_R} {pc d : Nat} {dflt : Int} {a : Int32} {k : Nat → Option ρ} {v : ρ} (hd : sm_tg code pc dflt d = true) : ∀ {ps : List (Int × Int)} {ts : List (Int32 × Nat)}, sm_oklk code pc ps ts = true → sm_sw a d k ts = some v → ∃ t, sm_tg code pc (Op.lookupswitch.offset ps dflt a.toInt) t = true ∧ k t = some v
  | [], [], _, h => ⟨d, hd, h⟩
  | [], _ :: _, h, _ => by cases h
  | _ :: _, [], h, _ => by cases h
  | (x, off) :: ps, (c, t) :: ts, h, hs => by
    unfold sm_oklk at h
    simp only [Bool.and_eq_true, decide_eq_true_eq] at h
    unfold sm_sw at hs
    unfold Op.lookupswitch.offset
    split at hs
    · rename_i he
      subst he
      refine ⟨t, ?_, hs⟩
      simp [h.1.1, h.1.2]
    · rename_i he
      obtain ⟨t', h1, h2⟩ := sm_oklk_at hd h.2 hs
      refine ⟨t', ?_, h2⟩
      have hne : ¬ a.toInt = x := fun q => he (Int32.toInt_inj.mp (q.trans h.1.1.symm))
      have hne' : ¬ x = a.toInt := fun q => hne q.symm
      simp [hne, hne', h1]
section
variable {TT : List Cond} {cls : List vw_C} {P : List sm_I} {nm : Nat → String} {LF LP : sm_L4} {LM LN LS : sm_L3} {sa : sm_Sa} {sh : List sm_Sh} {f : sm_I} {d : Nat} {R : sm_S}
theorem sm_V.row {kx i : Nat} {r : sm_R} (V : sm_V TT cls P nm LF LP LM LN LS sa sh) (hf : P[kx]? = some f) (hr : (sm_Ic f)[i]? = some r) : sm_okr P LF LP LM LN LS f r = true ∧ sm_seq (sm_Ic f) = true := by
  have h := (V.2.2.2.2.2.2.1 kx f hf).2.2.2.2.2.2
  unfold sm_okm at h
  simp only [Bool.and_eq_true, List.all_eq_true] at h
  exact ⟨h.2 r (List.mem_of_getElem? hr), h.1⟩
theorem sm_tg_at {code : List sm_R} {pc t : Nat} {off : Int} (h : sm_tg code pc off t = true) : ∃ q, code.drop t = q :: code.drop (t + 1) ∧ (pc : Int) + off = (sm_pc q : Int) := by
  unfold sm_tg at h
  split at h
  · rename_i q hq
    exact ⟨q, sm_drop hq, of_decide_eq_true h⟩
  · cases h
/-- behind a call -/
theorem sm_callr {p : Program} {l : Launch} {e : Env} {Rm : Room} {s : State} {m : MethodId} {args a : Array Value} {below : List Frame} {meth : Method} {c : Code} {H H0 : Heap} {locs : List Loc} {Q : State → Prop} {pc : Nat} {ls : Array Slot} {rest st0 : List Value} {A0 A1 : Nat → Prop} {G : sm_G} {ret : Option FieldType} {Rv : sm_S}
    (hr : va_Run p l e Rm s m args below meth c H locs 0 0 0 0 (F0 m pc ls st0) rest (sm_Qc cls sh G A1 ret Rv a) A1) (hS : va_S A0 H0 H locs) (hA : ∀ q, A1 q → A0 q)
    (kk : ∀ (t : State) (H1 : Heap) (locs1 : List Loc), s.vm.Alike t.vm → va_P G.1 cls (sm_ws sh G Rv.2.1 Rv.2.2) H1 → va_D A1 (sm_ws sh G Rv.2.1 Rv.2.2) → va_S A0 H0 H1 locs1 → W p l e Rm s m args below meth c H1 locs1 0 0 Q (F0 m (pc + 3) ls ((sm_rv ret Rv.1).toList ++ rest))) : W p l e Rm s m args below meth c H locs 0 0 Q (F0 m pc ls st0) := by
  intro T hT X
  obtain ⟨v, st₀, t, T', L, h0, X', hL, e1, e2, ⟨hv, ⟨hP1, hK1, hD1⟩, hz, hk⟩, st⟩ := hr T hT X
  cases hv
  rw [h0] at hz hk
  obtain ⟨t2, a1, b1⟩ := kk t T'.heap (locs ++ L) (by rw [← e2]; exact X'.warmed.alike) (by rw [e1]; exact hP1) hD1
    ⟨Nat.le_trans hS.1 (by rw [e1]; exact hz), fun q h1 h2 => by rw [e1, hk q (Nat.lt_of_lt_of_le h1 hS.1) (fun z => h2 (hA q z))]; exact hS.2.1 q h1 h2, fun q hq => by
      rcases List.mem_append.mp hq with h | h
      · exact hS.2.2 q h
      · exact hA _ (hL q h)⟩ T' rfl X'
  exact ⟨t2, st t2 a1, b1⟩
theorem sm_sta.to {G : sm_G} {A A1 : Nat → Prop} {s U : State} {H : Heap} {locs : List Loc} (h : sm_sta sa G A s s.heap) (hS : va_S A s.heap H locs) (hA : ∀ q, A1 q → A q) (hU : U.heap = H) (hal : s.vm.Alike U.vm) : sm_sta sa G A1 U U.heap := by
  intro q hq
  obtain ⟨h1, h2⟩ := h q hq
  rw [hU]
  exact ⟨((h1.kept hS.2.1).narrow hA).moved hal, ((h2.kept hS.2.1).narrow hA).moved hal⟩
theorem sm_blind {G : sm_G} {sz : Nat} {as : List Value} {D : sm_D} {M : sm_M} : FrameBlind (sm_Pc cls sa sh G sz as D M) := by
  intro a U g mk h
  obtain ⟨h0, h1, h2, h3, h4, h5⟩ := h
  refine ⟨h0, h1, h2, va_K.moved (u := U) (U := U.calling g mk a) (Vm.Alike.refl U.vm) h3, h4, fun q hq => ?_⟩
  obtain ⟨q1, q2⟩ := h5 q hq
  exact ⟨va_Z.moved (u := U) (U := U.calling g mk a) (Vm.Alike.refl U.vm) q1, va_T.moved (u := U) (U := U.calling g mk a) (Vm.Alike.refl U.vm) q2⟩
theorem sm_cat_sum {ad : Nat → Nat} : ∀ {st : List Value}, (∀ v ∈ st, (sm_cz ad v).category ≤ 1) → ((st.map (sm_cz ad)).map fun v => v.category).sum ≤ st.length
  | [], _ => by simp
  | v :: t, h => by
    have h1 := h v List.mem_cons_self
    have h2 := sm_cat_sum (ad := ad) (st := t) (fun w hw => h w (List.mem_cons_of_mem _ hw))
    simp only [List.map_cons, List.sum_cons, List.length_cons]
    omega
theorem sm_st_ok {ρ : Type} {cal : sm_Cal} {zr : Bool} {ret : Int32 → sm_D → sm_M → Option ρ} {nx : sm_K ρ} {gd : ρ → Prop} {kx : Nat}
    (V : sm_V TT cls P nm LF LP LM LN LS sa sh) (hf : P[kx]? = some f) (hz : zr = decide (sm_Ir f = some .boolean))
    (hcal : ∀ (x : Nat) (g : sm_I) (as : List Value) (D : sm_D) (M : sm_M) (R' : sm_S), P[x]? = some g → cal x as D M = some R' → (∃ d', d' + 1 ≤ d ∧ sm_MJ TT cls sa sh g d' as D M R') ∨ sm_mx d g as D M R')
    (hret : ∀ (a : Int32) (D : sm_D) (M : sm_M) (v : ρ), ret a D M = some v → gd v → R = (a, D, M))
    (hnil : ∀ (ls st : List Value) (D : sm_D) (M : sm_M), nx [] ls st D M = none)
    (hnx : ∀ (j : Nat) (q : sm_R) (t : List sm_R) (ls st : List Value) (D : sm_D) (M : sm_M) (v : ρ), (sm_Ic f).drop j = q :: t → nx (q :: t) ls st D M = some v → gd v → sm_WJ TT cls sa sh f d (sm_pc q) ls st D M R)
    {i : Nat} {r : sm_R} {rest : List sm_R} (hr : (sm_Ic f).drop i = r :: rest) {ls st : List Value} {D : sm_D} {M : sm_M} {v : ρ} (h : sm_st sh sa cal (sm_Ic f) zr ret nx (r :: rest) ls st D M = some v) (hv : gd v) : sm_WJ TT cls sa sh f d (sm_pc r) ls st D M R := by
  obtain ⟨hri, hrest⟩ := sm_code_at hr
  obtain ⟨hok, hsq⟩ := V.row hf hri
  have hown : nm (sm_Io f) = (sm_Iy f).cls := (V.2.2.2.2.2.2.1 kx f hf).2.2.1
  have nxt : ∀ (ls st : List Value) (D : sm_D) (M : sm_M), nx rest ls st D M = some v → sm_WJ TT cls sa sh f d (sm_pc r + sm_ln r) ls st D M R := by
    intro ls st D M h
    cases hc : rest with
    | nil => rw [hc, hnil] at h; cases h
    | cons q t =>
      rw [hc] at h hrest
      have hq : (sm_Ic f)[i + 1]? = some q := (sm_code_at hrest.symm).1
      rw [← sm_seq_at hsq hri hq]
      exact hnx (i + 1) q t ls st D M v hrest.symm h hv
  have jmp : ∀ (t : Nat) (off : Int) (ls st : List Value) (D : sm_D) (M : sm_M), sm_tg (sm_Ic f) (sm_pc r) off t = true → ∃ tgt : Nat, (sm_pc r : Int) + off = (tgt : Int) ∧ (nx ((sm_Ic f).drop t) ls st D M = some v → sm_WJ TT cls sa sh f d tgt ls st D M R) := by
    intro t off ls st D M h1
    obtain ⟨q, h3, h4⟩ := sm_tg_at h1
    exact ⟨sm_pc q, h4, fun h2 => hnx t q _ ls st D M v h3 (by rw [← h3]; exact h2) hv⟩
  obtain ⟨pc, ins, ln, fl, vv, x, y, z, w, ts⟩ := r
  cases ins with
  | iconst n =>
    replace h : nx rest ls (.int vv :: st) D M = some v := h
    replace hok : (decide (decode (sm_Ib f) pc = .ok (.iconst n, ln)) && decide (ln = 1 ∧ Int32.ofInt n = vv)) = true := hok
    simp only [Bool.and_eq_true, decide_eq_true_eq] at hok
    obtain ⟨hd, rfl, he⟩ := hok
    have K := nxt _ _ _ _ h
    intro p l e s m args below meth c G A C H locs lsr hP hD hS hL
    exact lv_iconst C.1 C.2.1 hd he (K p l e s m args below meth c G A C H locs lsr hP hD hS hL)
  | bipush n =>
    replace h : nx rest ls (.int vv :: st) D M = some v := h
    replace hok : (decide (decode (sm_Ib f) pc = .ok (.bipush n, ln)) && decide (ln = 2 ∧ (Int8.ofInt n).toInt32 = vv)) = true := hok
    simp only [Bool.and_eq_true, decide_eq_true_eq] at hok
    obtain ⟨hd, rfl, he⟩ := hok
    have K := nxt _ _ _ _ h
    intro p l e s m args below meth c G A C H locs lsr hP hD hS hL
    exact lv_bipush C.1 C.2.1 hd he (K p l e s m args below meth c G A C H locs lsr hP hD hS hL)
  | sipush n =>
    replace h : nx rest ls (.int vv :: st) D M = some v := h
    replace hok : (decide (decode (sm_Ib f) pc = .ok (.sipush n, ln)) && decide (ln = 3 ∧ (Int16.ofInt n).toInt32 = vv)) = true := hok
    simp only [Bool.and_eq_true, decide_eq_true_eq] at hok
    obtain ⟨hd, rfl, he⟩ := hok
    have K := nxt _ _ _ _ h
    intro p l e s m args below meth c G A C H locs lsr hP hD hS hL
    exact lv_sipush C.1 C.2.1 hd he (K p l e s m args below meth c G A C H locs lsr hP hD hS hL)
  | iload_n k =>
    replace h : sm_lo ls x (fun v => match v with
      | .int _ => nx rest ls (v :: st) D M
      | _ => none) = some v := h
    replace hok : (decide (decode (sm_Ib f) pc = .ok (.iload_n k, ln)) && decide (ln = 1 ∧ k.val = x)) = true := hok
    simp only [Bool.and_eq_true, decide_eq_true_eq] at hok
    obtain ⟨hd, rfl, rfl⟩ := hok
    rcases sm_lo_inv h with ⟨a, h1, h2⟩ | ⟨q, h1, h2⟩
    · have K := nxt _ _ _ _ h2
      intro p l e s m args below meth c G A C H locs lsr hP hD hS hL
      exact lv_iload_n C.1 C.2.1 hd rfl (sm_L_int hL h1) (K p l e s m args below meth c G A C H locs lsr hP hD hS hL)
    · cases h2
  | iload k =>
    replace h : sm_lo ls x (fun v => match v with
      | .int _ => nx rest ls (v :: st) D M
      | _ => none) = some v := h
    replace hok : (decide (decode (sm_Ib f) pc = .ok (.iload k, ln)) && decide (ln = 2 ∧ k = x)) = true := hok
    simp only [Bool.and_eq_true, decide_eq_true_eq] at hok
    obtain ⟨hd, rfl, rfl⟩ := hok
    rcases sm_lo_inv h with ⟨a, h1, h2⟩ | ⟨q, h1, h2⟩
    · have K := nxt _ _ _ _ h2
      intro p l e s m args below meth c G A C H locs lsr hP hD hS hL
      exact lv_iload C.1 C.2.1 hd  (sm_L_int hL h1) (K p l e s m args below meth c G A C H locs lsr hP hD hS hL)
    · cases h2
  | aload_n k =>
    replace h : sm_lo ls x (fun v => match v with
      | .ref _ => nx rest ls (v :: st) D M
      | _ => none) = some v := h
    replace hok : (decide (decode (sm_Ib f) pc = .ok (.aload_n k, ln)) && decide (ln = 1 ∧ k.val = x)) = true := hok
    simp only [Bool.and_eq_true, decide_eq_true_eq] at hok
    obtain ⟨hd, rfl, rfl⟩ := hok
    rcases sm_lo_inv h with ⟨a, h1, h2⟩ | ⟨q, h1, h2⟩
    · cases h2
    · have K := nxt _ _ _ _ h2
      intro p l e s m args below meth c G A C H locs lsr hP hD hS hL
      exact lv_aload_n C.1 C.2.1 hd rfl (sm_L_ref hL h1) (K p l e s m args below meth c G A C H locs lsr hP hD hS hL)
  | aload k =>
    replace h : sm_lo ls x (fun v => match v with
      | .ref _ => nx rest ls (v :: st) D M
      | _ => none) = some v := h
    replace hok : (decide (decode (sm_Ib f) pc = .ok (.aload k, ln)) && decide (ln = 2 ∧ k = x)) = true := hok
    simp only [Bool.and_eq_true, decide_eq_true_eq] at hok
    obtain ⟨hd, rfl, rfl⟩ := hok
    rcases sm_lo_inv h with ⟨a, h1, h2⟩ | ⟨q, h1, h2⟩
    · cases h2
    · have K := nxt _ _ _ _ h2
      intro p l e s m args below meth c G A C H locs lsr hP hD hS hL
      exact lv_aload C.1 C.2.1 hd  (sm_L_ref hL h1) (K p l e s m args below meth c G A C H locs lsr hP hD hS hL)
  | istore_n k =>
    replace h : sm_p1 st (fun a st => nx rest (ls.set x (.int a)) st D M) = some v := h
    replace hok : (decide (decode (sm_Ib f) pc = .ok (.istore_n k, ln)) && decide (ln = 1 ∧ k.val = x ∧ x < sm_Il f)) = true := hok
    simp only [Bool.and_eq_true, decide_eq_true_eq] at hok
    obtain ⟨hd, rfl, rfl, hn⟩ := hok
    obtain ⟨a, t, rfl, h⟩ := sm_p1_inv h
    have K := nxt _ _ _ _ h
    intro p l e s m args below meth c G A C H locs lsr hP hD hS hL
    exact lv_istore_n (x := a) C.1 C.2.1 hd rfl (sm_L_has hL) hn rfl (fun ls' h' => K p l e s m args below meth c G A C H locs ls' hP hD hS (sm_L_set (v := .int a) hL rfl h'))
  | astore_n k =>
    replace h : sm_pr st (fun p st => nx rest (ls.set x (.ref (p + 1))) st D M) = some v := h
    replace hok : (decide (decode (sm_Ib f) pc = .ok (.astore_n k, ln)) && decide (ln = 1 ∧ k.val = x ∧ x < sm_Il f)) = true := hok
    simp only [Bool.and_eq_true, decide_eq_true_eq] at hok
    obtain ⟨hd, rfl, rfl, hn⟩ := hok
    obtain ⟨q, t, rfl, h⟩ := sm_pr_inv h
    have K := nxt _ _ _ _ h
    intro p l e s m args below meth c G A C H locs lsr hP hD hS hL
    exact lv_astore_n (x := sm_ad G (q + 1)) C.1 C.2.1 hd rfl (sm_L_has hL) hn rfl (fun ls' h' => K p l e s m args below meth c G A C H locs ls' hP hD hS (sm_L_set (v := .ref (q + 1)) hL rfl h'))
  | istore k =>
    replace h : sm_p1 st (fun a st => nx rest (ls.set x (.int a)) st D M) = some v := h
    replace hok : (decide (decode (sm_Ib f) pc = .ok (.istore k, ln)) && decide (ln = 2 ∧ k = x ∧ x < sm_Il f)) = true := hok
    simp only [Bool.and_eq_true, decide_eq_true_eq] at hok
    obtain ⟨hd, rfl, rfl, hn⟩ := hok
    obtain ⟨a, t, rfl, h⟩ := sm_p1_inv h
    have K := nxt _ _ _ _ h
    intro p l e s m args below meth c G A C H locs lsr hP hD hS hL
    exact lv_istore (x := a) C.1 C.2.1 hd  (sm_L_has hL) hn rfl (fun ls' h' => K p l e s m args below meth c G A C H locs ls' hP hD hS (sm_L_set (v := .int a) hL rfl h'))
  | astore k =>
    replace h : sm_pr st (fun p st => nx rest (ls.set x (.ref (p + 1))) st D M) = some v := h
    replace hok : (decide (decode (sm_Ib f) pc = .ok (.astore k, ln)) && decide (ln = 2 ∧ k = x ∧ x < sm_Il f)) = true := hok
    simp only [Bool.and_eq_true, decide_eq_true_eq] at hok
    obtain ⟨hd, rfl, rfl, hn⟩ := hok
    obtain ⟨q, t, rfl, h⟩ := sm_pr_inv h
    have K := nxt _ _ _ _ h
    intro p l e s m args below meth c G A C H locs lsr hP hD hS hL
    exact lv_astore (x := sm_ad G (q + 1)) C.1 C.2.1 hd  (sm_L_has hL) hn rfl (fun ls' h' => K p l e s m args below meth c G A C H locs ls' hP hD hS (sm_L_set (v := .ref (q + 1)) hL rfl h'))
  | iinc k n =>
    replace h : sm_lo ls x (fun w => match w with
      | .int a => nx rest (ls.set x (.int (a + vv))) st D M
      | _ => none) = some v := h
    replace hok : (decide (decode (sm_Ib f) pc = .ok (.iinc k n, ln)) && decide (ln = 3 ∧ k = x ∧ Int32.ofInt n = vv ∧ x < sm_Il f)) = true := hok
    simp only [Bool.and_eq_true, decide_eq_true_eq] at hok
    obtain ⟨hd, rfl, rfl, rfl, hn⟩ := hok
    rcases sm_lo_inv h with ⟨a, h1, h2⟩ | ⟨q, h1, h2⟩
    · have K := nxt _ _ _ _ h2
      intro p l e s m args below meth c G A C H locs lsr hP hD hS hL
      obtain ⟨j, hj⟩ := List.getElem?_of_mem (sm_prs_in (ad := sm_ad G) h1 rfl)
      exact lv_iinc (x := a) C.1 C.2.1 hd (sm_L_has hL) hj rfl hn rfl (fun ls' h' => K p l e s m args below meth c G A C H locs ls' hP hD hS (sm_L_set (v := .int (a + Int32.ofInt n)) hL rfl h'))
    · cases h2
  | iadd =>
    replace h : sm_p2 st (fun a b st => nx rest ls (.int (a + b) :: st) D M) = some v := h
    replace hok : (decide (decode (sm_Ib f) pc = .ok (.iadd, ln)) && decide (ln = 1)) = true := hok
    simp only [Bool.and_eq_true, decide_eq_true_eq] at hok
    obtain ⟨hd, rfl⟩ := hok
    obtain ⟨a, b, t, rfl, h⟩ := sm_p2_inv h
    have K := nxt _ _ _ _ h
    intro p l e s m args below meth c G A C H locs lsr hP hD hS hL
    exact lv_iadd C.1 C.2.1 hd (K p l e s m args below meth c G A C H locs lsr hP hD hS hL)
  | isub =>
    replace h : sm_p2 st (fun a b st => nx rest ls (.int (a - b) :: st) D M) = some v := h
    replace hok : (decide (decode (sm_Ib f) pc = .ok (.isub, ln)) && decide (ln = 1)) = true := hok
    simp only [Bool.and_eq_true, decide_eq_true_eq] at hok
    obtain ⟨hd, rfl⟩ := hok
    obtain ⟨a, b, t, rfl, h⟩ := sm_p2_inv h
    have K := nxt _ _ _ _ h
    intro p l e s m args below meth c G A C H locs lsr hP hD hS hL
    exact lv_isub C.1 C.2.1 hd (K p l e s m args below meth c G A C H locs lsr hP hD hS hL)
  | imul =>
    replace h : sm_p2 st (fun a b st => nx rest ls (.int (a * b) :: st) D M) = some v := h
    replace hok : (decide (decode (sm_Ib f) pc = .ok (.imul, ln)) && decide (ln = 1)) = true := hok
    simp only [Bool.and_eq_true, decide_eq_true_eq] at hok
    obtain ⟨hd, rfl⟩ := hok
    obtain ⟨a, b, t, rfl, h⟩ := sm_p2_inv h
    have K := nxt _ _ _ _ h
    intro p l e s m args below meth c G A C H locs lsr hP hD hS hL
    exact lv_imul C.1 C.2.1 hd (K p l e s m args below meth c G A C H locs lsr hP hD hS hL)
  | iand =>
    replace h : sm_p2 st (fun a b st => nx rest ls (.int (a &&& b) :: st) D M) = some v := h
    replace hok : (decide (decode (sm_Ib f) pc = .ok (.iand, ln)) && decide (ln = 1)) = true := hok
    simp only [Bool.and_eq_true, decide_eq_true_eq] at hok
    obtain ⟨hd, rfl⟩ := hok
    obtain ⟨a, b, t, rfl, h⟩ := sm_p2_inv h
    have K := nxt _ _ _ _ h
    intro p l e s m args below meth c G A C H locs lsr hP hD hS hL
    exact lv_iand C.1 C.2.1 hd (K p l e s m args below meth c G A C H locs lsr hP hD hS hL)
  | ixor =>
    replace h : sm_p2 st (fun a b st => nx rest ls (.int (a ^^^ b) :: st) D M) = some v := h
    replace hok : (decide (decode (sm_Ib f) pc = .ok (.ixor, ln)) && decide (ln = 1)) = true := hok
    simp only [Bool.and_eq_true, decide_eq_true_eq] at hok
    obtain ⟨hd, rfl⟩ := hok
    obtain ⟨a, b, t, rfl, h⟩ := sm_p2_inv h
    have K := nxt _ _ _ _ h
    intro p l e s m args below meth c G A C H locs lsr hP hD hS hL
    exact lv_ixor C.1 C.2.1 hd (K p l e s m args below meth c G A C H locs lsr hP hD hS hL)
  | iushr =>
    replace h : sm_p2 st (fun a b st => nx rest ls (.int ((a.toUInt32 >>> (b.toUInt32 &&& Int32.toUInt32 31)).toInt32) :: st) D M) = some v := h
    replace hok : (decide (decode (sm_Ib f) pc = .ok (.iushr, ln)) && decide (ln = 1)) = true := hok
    simp only [Bool.and_eq_true, decide_eq_true_eq] at hok
    obtain ⟨hd, rfl⟩ := hok
    obtain ⟨a, b, t, rfl, h⟩ := sm_p2_inv h
    have K := nxt _ _ _ _ h
    intro p l e s m args below meth c G A C H locs lsr hP hD hS hL
    exact lv_iushr C.1 C.2.1 hd rfl (K p l e s m args below meth c G A C H locs lsr hP hD hS hL)
  | irem =>
    replace h : sm_p2 st (fun a b st => sm_nz b (nx rest ls (.int (a - a / b * b) :: st) D M)) = some v := h
    replace hok : (decide (decode (sm_Ib f) pc = .ok (.irem, ln)) && decide (ln = 1)) = true := hok
    simp only [Bool.and_eq_true, decide_eq_true_eq] at hok
    obtain ⟨hd, rfl⟩ := hok
    obtain ⟨a, b, t, rfl, h⟩ := sm_p2_inv h
    obtain ⟨hb, h⟩ := sm_nz_inv h
    have K := nxt _ _ _ _ h
    intro p l e s m args below meth c G A C H locs lsr hP hD hS hL
    exact lv_irem C.1 C.2.1 hd hb (K p l e s m args below meth c G A C H locs lsr hP hD hS hL)
  | dup =>
    replace h : sm_v1 st (fun w st => nx rest ls (w :: w :: st) D M) = some v := h
    replace hok : (decide (decode (sm_Ib f) pc = .ok (.dup, ln)) && decide (ln = 1)) = true := hok
    simp only [Bool.and_eq_true, decide_eq_true_eq] at hok
    obtain ⟨hd, rfl⟩ := hok
    obtain ⟨w, t0, rfl, hc0, h⟩ := sm_v1_inv h
    have K := nxt _ _ _ _ h
    intro p l e s m args below meth c G A C H locs lsr hP hD hS hL
    exact lv_dup C.1 C.2.1 hd (sm_c1_cat hc0) (K p l e s m args below meth c G A C H locs lsr hP hD hS hL)
  | pop =>
    replace h : sm_v1 st (fun _ st => nx rest ls (st) D M) = some v := h
    replace hok : (decide (decode (sm_Ib f) pc = .ok (.pop, ln)) && decide (ln = 1)) = true := hok
    simp only [Bool.and_eq_true, decide_eq_true_eq] at hok
    obtain ⟨hd, rfl⟩ := hok
    obtain ⟨w, t0, rfl, hc0, h⟩ := sm_v1_inv h
    have K := nxt _ _ _ _ h
    intro p l e s m args below meth c G A C H locs lsr hP hD hS hL
    exact lv_pop C.1 C.2.1 hd (sm_c1_cat hc0) (K p l e s m args below meth c G A C H locs lsr hP hD hS hL)
  | dup_x1 =>
    replace h : sm_v1 st (fun w st => sm_v1 st (fun u st => nx rest ls (w :: u :: w :: st) D M)) = some v := h
    replace hok : (decide (decode (sm_Ib f) pc = .ok (.dup_x1, ln)) && decide (ln = 1)) = true := hok
    simp only [Bool.and_eq_true, decide_eq_true_eq] at hok
    obtain ⟨hd, rfl⟩ := hok
    obtain ⟨w, t0, rfl, hc0, h⟩ := sm_v1_inv h
    obtain ⟨u, t1, rfl, hc1, h⟩ := sm_v1_inv h
    have K := nxt _ _ _ _ h
    intro p l e s m args below meth c G A C H locs lsr hP hD hS hL
    exact lv_dup_x1 C.1 C.2.1 hd (sm_c1_cat hc0) (sm_c1_cat hc1) (K p l e s m args below meth c G A C H locs lsr hP hD hS hL)
  | dup2 =>
    replace h : sm_v1 st (fun w st => sm_v1 st (fun u st => nx rest ls (w :: u :: w :: u :: st) D M)) = some v := h
    replace hok : (decide (decode (sm_Ib f) pc = .ok (.dup2, ln)) && decide (ln = 1)) = true := hok
    simp only [Bool.and_eq_true, decide_eq_true_eq] at hok
    obtain ⟨hd, rfl⟩ := hok
    obtain ⟨w, t0, rfl, hc0, h⟩ := sm_v1_inv h
    obtain ⟨u, t1, rfl, hc1, h⟩ := sm_v1_inv h
    have K := nxt _ _ _ _ h
    intro p l e s m args below meth c G A C H locs lsr hP hD hS hL
    exact lv_dup2_11 C.1 C.2.1 hd (sm_c1_cat hc0) (sm_c1_cat hc1) (K p l e s m args below meth c G A C H locs lsr hP hD hS hL)
  | dup_x2 =>
    replace h : sm_v1 st (fun w st => sm_v1 st (fun u st => sm_v1 st (fun k st => nx rest ls (w :: u :: k :: w :: st) D M))) = some v := h
    replace hok : (decide (decode (sm_Ib f) pc = .ok (.dup_x2, ln)) && decide (ln = 1)) = true := hok
    simp only [Bool.and_eq_true, decide_eq_true_eq] at hok
    obtain ⟨hd, rfl⟩ := hok
    obtain ⟨w, t0, rfl, hc0, h⟩ := sm_v1_inv h
    obtain ⟨u, t1, rfl, hc1, h⟩ := sm_v1_inv h
    obtain ⟨k, t2, rfl, hc2, h⟩ := sm_v1_inv h
    have K := nxt _ _ _ _ h
    intro p l e s m args below meth c G A C H locs lsr hP hD hS hL
    exact lv_dup_x2 C.1 C.2.1 hd (sm_c1_cat hc0) (sm_c1_cat hc1) (sm_c1_cat hc2) (K p l e s m args below meth c G A C H locs lsr hP hD hS hL)
  | ifCond cd off =>
    replace h : sm_p1 st (fun a st => sm_cn cd a 0 (nx ((sm_Ic f).drop x) ls st D M) (nx rest ls st D M)) = some v := h
    replace hok : (decide (decode (sm_Ib f) pc = .ok (.ifCond cd off, ln)) && (decide (ln = 3) && sm_tg (sm_Ic f) pc off x)) = true := hok
    simp only [Bool.and_eq_true, decide_eq_true_eq] at hok
    obtain ⟨hd, rfl, ht⟩ := hok
    obtain ⟨a, t, rfl, h⟩ := sm_p1_inv h
    obtain ⟨tgt, htg, hj⟩ := jmp x off ls t D M ht
    cases cd with
    | eq =>
      obtain ⟨h1, h2⟩ := sm_cn_eq h
      intro p l e s m args below meth c G A C H locs lsr hP hD hS hL
      exact lv_if_eq C.1 C.2.1 hd htg (fun hc => hj (h1 hc) p l e s m args below meth c G A C H locs lsr hP hD hS hL) (fun hc => nxt _ _ _ _ (h2 hc) p l e s m args below meth c G A C H locs lsr hP hD hS hL)
    | ne =>
      obtain ⟨h1, h2⟩ := sm_cn_ne h
      intro p l e s m args below meth c G A C H locs lsr hP hD hS hL
      exact lv_if_ne C.1 C.2.1 hd htg (fun hc => hj (h1 hc) p l e s m args below meth c G A C H locs lsr hP hD hS hL) (fun hc => nxt _ _ _ _ (h2 hc) p l e s m args below meth c G A C H locs lsr hP hD hS hL)
    | lt =>
      obtain ⟨h1, h2⟩ := sm_cn_lt h
      intro p l e s m args below meth c G A C H locs lsr hP hD hS hL
      exact lv_if_lt C.1 C.2.1 hd htg (fun hc => hj (h1 hc) p l e s m args below meth c G A C H locs lsr hP hD hS hL) (fun hc => nxt _ _ _ _ (h2 hc) p l e s m args below meth c G A C H locs lsr hP hD hS hL)
    | ge =>
      obtain ⟨h1, h2⟩ := sm_cn_ge h
      intro p l e s m args below meth c G A C H locs lsr hP hD hS hL
      exact lv_if_ge C.1 C.2.1 hd htg (fun hc => hj (h1 hc) p l e s m args below meth c G A C H locs lsr hP hD hS hL) (fun hc => nxt _ _ _ _ (h2 hc) p l e s m args below meth c G A C H locs lsr hP hD hS hL)
    | gt =>
      obtain ⟨h1, h2⟩ := sm_cn_gt h
      intro p l e s m args below meth c G A C H locs lsr hP hD hS hL
      exact lv_if_gt C.1 C.2.1 hd htg (fun hc => hj (h1 hc) p l e s m args below meth c G A C H locs lsr hP hD hS hL) (fun hc => nxt _ _ _ _ (h2 hc) p l e s m args below meth c G A C H locs lsr hP hD hS hL)
    | le =>
      obtain ⟨h1, h2⟩ := sm_cn_le h
      intro p l e s m args below meth c G A C H locs lsr hP hD hS hL
      exact lv_if_le C.1 C.2.1 hd htg (fun hc => hj (h1 hc) p l e s m args below meth c G A C H locs lsr hP hD hS hL) (fun hc => nxt _ _ _ _ (h2 hc) p l e s m args below meth c G A C H locs lsr hP hD hS hL)
  | if_icmp cd off =>
    replace h : sm_p2 st (fun a b st => sm_cn cd a b (nx ((sm_Ic f).drop x) ls st D M) (nx rest ls st D M)) = some v := h
    replace hok : (decide (decode (sm_Ib f) pc = .ok (.if_icmp cd off, ln)) && (decide (ln = 3) && sm_tg (sm_Ic f) pc off x)) = true := hok
    simp only [Bool.and_eq_true, decide_eq_true_eq] at hok
    obtain ⟨hd, rfl, ht⟩ := hok
    obtain ⟨a, b, t, rfl, h⟩ := sm_p2_inv h
    obtain ⟨tgt, htg, hj⟩ := jmp x off ls t D M ht
    cases cd with
    | eq =>
      obtain ⟨h1, h2⟩ := sm_cn_eq h
      intro p l e s m args below meth c G A C H locs lsr hP hD hS hL
      exact lv_icmp_eq C.1 C.2.1 hd htg (fun hc => hj (h1 hc) p l e s m args below meth c G A C H locs lsr hP hD hS hL) (fun hc => nxt _ _ _ _ (h2 hc) p l e s m args below meth c G A C H locs lsr hP hD hS hL)
    | ne =>
      obtain ⟨h1, h2⟩ := sm_cn_ne h
      intro p l e s m args below meth c G A C H locs lsr hP hD hS hL
      exact lv_icmp_ne C.1 C.2.1 hd htg (fun hc => hj (h1 hc) p l e s m args below meth c G A C H locs lsr hP hD hS hL) (fun hc => nxt _ _ _ _ (h2 hc) p l e s m args below meth c G A C H locs lsr hP hD hS hL)
    | lt =>
      obtain ⟨h1, h2⟩ := sm_cn_lt h
      intro p l e s m args below meth c G A C H locs lsr hP hD hS hL
      exact lv_icmp_lt C.1 C.2.1 hd htg (fun hc => hj (h1 hc) p l e s m args below meth c G A C H locs lsr hP hD hS hL) (fun hc => nxt _ _ _ _ (h2 hc) p l e s m args below meth c G A C H locs lsr hP hD hS hL)
    | ge =>
      obtain ⟨h1, h2⟩ := sm_cn_ge h
      intro p l e s m args below meth c G A C H locs lsr hP hD hS hL
      exact lv_icmp_ge C.1 C.2.1 hd htg (fun hc => hj (h1 hc) p l e s m args below meth c G A C H locs lsr hP hD hS hL) (fun hc => nxt _ _ _ _ (h2 hc) p l e s m args below meth c G A C H locs lsr hP hD hS hL)
    | gt =>
      obtain ⟨h1, h2⟩ := sm_cn_gt h
      intro p l e s m args below meth c G A C H locs lsr hP hD hS hL
      exact lv_icmp_gt C.1 C.2.1 hd htg (fun hc => hj (h1 hc) p l e s m args below meth c G A C H locs lsr hP hD hS hL) (fun hc => nxt _ _ _ _ (h2 hc) p l e s m args below meth c G A C H locs lsr hP hD hS hL)
    | le =>
      obtain ⟨h1, h2⟩ := sm_cn_le h
      intro p l e s m args below meth c G A C H locs lsr hP hD hS hL
      exact lv_icmp_le C.1 C.2.1 hd htg (fun hc => hj (h1 hc) p l e s m args below meth c G A C H locs lsr hP hD hS hL) (fun hc => nxt _ _ _ _ (h2 hc) p l e s m args below meth c G A C H locs lsr hP hD hS hL)
  | goto off =>
    replace h : nx ((sm_Ic f).drop x) ls st D M = some v := h
    replace hok : (decide (decode (sm_Ib f) pc = .ok (.goto off, ln)) && (decide (ln = 3) && sm_tg (sm_Ic f) pc off x)) = true := hok
    simp only [Bool.and_eq_true, decide_eq_true_eq] at hok
    obtain ⟨hd, rfl, ht⟩ := hok
    obtain ⟨tgt, htg, hj⟩ := jmp x off ls st D M ht
    intro p l e s m args below meth c G A C H locs lsr hP hD hS hL
    exact lv_goto C.1 C.2.1 hd htg (hj h p l e s m args below meth c G A C H locs lsr hP hD hS hL)
  | tableswitch dflt lo hi offs =>
    replace h : sm_p1 st (fun a st => sm_sw a x (fun t => nx ((sm_Ic f).drop t) ls st D M) ts) = some v := h
    replace hok : (decide (decode (sm_Ib f) pc = .ok (.tableswitch dflt lo hi offs, ln)) && (decide (hi + 1 = lo + (offs.size : Int)) && sm_tg (sm_Ic f) pc dflt x && sm_okts (sm_Ic f) pc lo offs.toList ts)) = true := hok
    simp only [Bool.and_eq_true, decide_eq_true_eq] at hok
    obtain ⟨hd, ⟨hh, ht⟩, hts⟩ := hok
    obtain ⟨a, t, rfl, h⟩ := sm_p1_inv h
    obtain ⟨hlen, hat⟩ := sm_okts_at hts
    have hlen : offs.size = ts.length := by rw [← hlen]; simp
    rcases sm_sw_inv h with ⟨n, t', h1, -, h2⟩ | ⟨h1, h2⟩
    · obtain ⟨ha, off, ho, hg⟩ := hat n a t' h1
      obtain ⟨tgt, htg, hj⟩ := jmp t' off ls t D M hg
      have hn : n < ts.length := (List.getElem?_eq_some_iff.mp h1).1
      intro p l e s m args below meth c G A C H locs lsr hP hD hS hL
      exact lv_tableIn C.1 C.2.1 hd (by omega) (by omega) (by rw [ha, show (lo + (n : Int) - lo).toNat = n by omega, ← Array.getElem?_toList]; exact ho) htg (hj h2 p l e s m args below meth c G A C H locs lsr hP hD hS hL)
    · obtain ⟨tgt, htg, hj⟩ := jmp x dflt ls t D M ht
      have hout : a.toInt < lo ∨ hi < a.toInt := by
        by_cases h3 : a.toInt < lo
        · exact Or.inl h3
        · refine Or.inr (Int.not_le.mp fun h4 => ?_)
          have hn : (a.toInt - lo).toNat < ts.length := by omega
          obtain ⟨ha, -⟩ := hat (a.toInt - lo).toNat ts[(a.toInt - lo).toNat].1 ts[(a.toInt - lo).toNat].2 (List.getElem?_eq_getElem hn)
          exact h1 _ (List.getElem_mem hn) (Int32.toInt_inj.mp (by rw [ha]; omega))
      intro p l e s m args below meth c G A C H locs lsr hP hD hS hL
      exact lv_tableOut C.1 C.2.1 hd hout htg (hj h2 p l e s m args below meth c G A C H locs lsr hP hD hS hL)
  | lookupswitch dflt ps =>
    replace h : sm_p1 st (fun a st => sm_sw a x (fun t => nx ((sm_Ic f).drop t) ls st D M) ts) = some v := h
    replace hok : (decide (decode (sm_Ib f) pc = .ok (.lookupswitch dflt ps, ln)) && ((ps.toList.zip (ps.toList.drop 1)).all (fun (a, next) => a.1 < next.1) && sm_tg (sm_Ic f) pc dflt x && sm_oklk (sm_Ic f) pc ps.toList ts)) = true := hok
    rw [Bool.and_eq_true, Bool.and_eq_true, Bool.and_eq_true] at hok
    obtain ⟨hd, ⟨hso, ht⟩, hlk⟩ := hok
    have hd := of_decide_eq_true hd
    obtain ⟨a, t, rfl, h⟩ := sm_p1_inv h
    obtain ⟨t', h1, h2⟩ := sm_oklk_at ht hlk h
    obtain ⟨tgt, htg, hj⟩ := jmp t' _ ls t D M h1
    intro p l e s m args below meth c G A C H locs lsr hP hD hS hL
    exact lv_lookup C.1 C.2.1 hd hso rfl htg (hj h2 p l e s m args below meth c G A C H locs lsr hP hD hS hL)
  | getfield ix =>
    replace h : sm_get sh x y st D M (fun w st => nx rest ls (w :: st) D M) = some v := h
    replace hok : (decide (decode (sm_Ib f) pc = .ok (.getfield ix, ln)) && decide (ln = 3 ∧ (sm_Io f, ix, x, y) ∈ LF)) = true := hok
    simp only [Bool.and_eq_true, decide_eq_true_eq] at hok
    obtain ⟨hd, rfl, hl⟩ := hok
    obtain ⟨j, fs, t, a, b, w, rfl, hj, hk, h, he⟩ := sm_get_inv h
    obtain ⟨C0, T0, N0, hc, hN, hlk, hT1⟩ := V.2.2.1 _ _ _ _ hl
    rw [hown] at hlk
    have K := nxt _ _ _ _ h
    intro p l e s m args below meth c G A C H locs lsr hP hD hS hL
    refine va_get (ws := sm_ws sh G D M) (fs := fs.mapIdx (fun k t => sm_fv (sm_ad G) D (M (j + 1)) k t)) (v := sm_cz (sm_ad G) w) C.1 C.2.1 C.2.2.2.2.2.1 (V.2.1 x C0 T0 N0 hc).1 C.2.2.2.2.2.2.1 C.2.2.2.2.2.2.2.1 hP j (sm_ws_at hj) hc y hN (C.2.2.2.2.2.1 _ hlk) (fun q hq => by rw [hT1] at hq; exact hq) ?_ hd (K p l e s m args below meth c G A C H locs lsr hP hD hS hL)
    rw [List.getElem?_mapIdx, hk]
    show some (sm_fv (sm_ad G) D (M (j + 1)) y (a, b)) = _
    rw [he]
  | putfield ix =>
    replace h : sm_put sh x y st D M (fun st D M => nx rest ls st D M) = some v := h
    replace hok : (decide (decode (sm_Ib f) pc = .ok (.putfield ix, ln)) && decide (ln = 3 ∧ (sm_Io f, ix, x, y) ∈ LP)) = true := hok
    simp only [Bool.and_eq_true, decide_eq_true_eq] at hok
    obtain ⟨hd, rfl, hl⟩ := hok
    obtain ⟨hl, hfin⟩ := V.2.2.2.1 _ _ _ _ hl
    obtain ⟨C0, T0, N0, hc, hN, hlk, hT1⟩ := V.2.2.1 _ _ _ _ hl
    rw [hown] at hlk
    have hfin := hfin C0 T0 N0 hc
    obtain ⟨hin, ⟨ty, hty⟩, hnm⟩ := V.2.1 x C0 T0 N0 hc
    rcases sm_put_inv h with ⟨w, j, fs, t, a, b, rfl, hj, hk, ha, h⟩ | ⟨q, j, fs, t, b, rfl, hj, hk, hb, h⟩
    · obtain ⟨C1, T1, N1, hc1, hlen, hkd⟩ := V.2.2.2.2.2.2.2.2.1 j x fs hj
      cases hc.symm.trans hc1
      obtain ⟨hk0, hk3, -⟩ := hkd y a b hk
      have K := nxt _ _ _ _ h
      have hty' : ∃ tz : FieldType, parseFieldDescriptor (T0 y).2.2.1 = some tz ∧ narrow tz (.int w) = .int w ∧ fits tz (.int w) = true := by
        rcases ha with rfl | ⟨rfl, hw⟩
        · rw [hk0 rfl]
          exact ⟨.int, by decide +kernel, rfl, rfl⟩
        · rw [hk3 rfl]
          refine ⟨.boolean, by decide +kernel, ?_⟩
          rcases hw with rfl | rfl
          · exact ⟨by decide +kernel, by decide +kernel⟩
          · exact ⟨by decide +kernel, by decide +kernel⟩
      obtain ⟨tz, hz1, hz2, hz3⟩ := hty'
      intro p l e s m args below meth c G A C H locs lsr hP hD hS hL
      refine va_put (ws := sm_ws sh G D M) (fs := fs.mapIdx (fun k t => sm_fv (sm_ad G) D (M (j + 1)) k t)) (v := .int w) C.1 C.2.1 C.2.2.2.2.2.1 hin ty hty hnm C.2.2.2.2.2.2.1 C.2.2.2.2.2.2.2.1 hP hD hS j (sm_ws_at hj) hc y hN (C.2.2.2.2.2.1 _ hlk) (fun q hq => by rw [hT1] at hq; exact hq) hfin hz1 hz2 hz3 (by simpa [hlen] using hN) hd (fun H1 locs1 hP1 hD1 hS1 => ?_)
      have ew : (sm_ws sh G D M).set j (sm_ad G (j + 1), .inr (x, (fs.mapIdx (fun k t => sm_fv (sm_ad G) D (M (j + 1)) k t)).set y (.int w))) = sm_ws sh G D (sm_up M (j + 1) y w) := by
        rw [sm_fs_set hk (by rcases ha with e | ⟨e, -⟩ <;> simp [e])]
        exact sm_ws_up (h := (2, x, fs)) hj
      rw [ew] at hP1 hD1
      exact K p l e s m args below meth c G A C H1 locs1 lsr hP1 hD1 hS1 hL
    · obtain ⟨C1, T1, N1, hc1, hlen, hkd⟩ := V.2.2.2.2.2.2.2.2.1 j x fs hj
      cases hc.symm.trans hc1
      obtain ⟨-, -, hk2⟩ := hkd y 2 b hk
      obtain ⟨⟨C', hC'⟩, hu⟩ := hk2 rfl
      have K := nxt _ _ _ _ h
      intro p l e s m args below meth c G A C H locs lsr hP hD hS hL
      have hz : narrow (.object C') (sm_cz (sm_ad G) (.ref q)) = sm_cz (sm_ad G) (.ref q) ∧ fits (.object C') (sm_cz (sm_ad G) (.ref q)) = true := by
        cases q with
        | zero => exact ⟨rfl, rfl⟩
        | succ q => exact ⟨rfl, rfl⟩
      refine va_put (ws := sm_ws sh G D M) (fs := fs.mapIdx (fun k t => sm_fv (sm_ad G) D (M (j + 1)) k t)) (v := sm_cz (sm_ad G) (.ref q)) C.1 C.2.1 C.2.2.2.2.2.1 hin ty hty hnm C.2.2.2.2.2.2.1 C.2.2.2.2.2.2.2.1 hP hD hS j (sm_ws_at hj) hc y hN (C.2.2.2.2.2.1 _ hlk) (fun q hq => by rw [hT1] at hq; exact hq) hfin hC' hz.1 hz.2 (by simpa [hlen] using hN) hd (fun H1 locs1 hP1 hD1 hS1 => ?_)
      rw [sm_ws_setD hj hk hb hu V.2.2.2.2.2.2.2.2.2.1] at hP1 hD1
      exact K p l e s m args below meth c G A C H1 locs1 lsr hP1 hD1 hS1 hL
  | getstatic ix =>
    replace h : nx rest ls (.ref x :: st) D M = some v := h
    replace hok : (decide (decode (sm_Ib f) pc = .ok (.getstatic ix, ln)) && decide (ln = 3 ∧ (sm_Io f, ix, x) ∈ LS)) = true := hok
    simp only [Bool.and_eq_true, decide_eq_true_eq] at hok
    obtain ⟨hd, rfl, hl⟩ := hok
    obtain ⟨q, hq, hqx, hpos, hlk⟩ := V.2.2.2.2.2.2.2.1 _ _ _ hl
    rw [hown] at hlk
    have K := nxt _ _ _ _ h
    intro p l e s m args below meth c G A C H locs lsr hP hD hS hL
    have hst := (C.2.2.2.2.2.2.2.2.1 q hq).1
    have ez : sm_cz (sm_ad G) (.ref x) = .ref (sm_ad G q.1) := by
      rw [hqx]
      cases x with
      | zero => omega
      | succ x => rfl
    refine va_gets (v := .ref (sm_ad G q.1)) C.1 C.2.1 hst hS C.2.2.2.2.2.2.1 (C.2.2.2.2.2.1 _ hlk) (fun _ h9 => h9) hd ?_
    rw [← ez]
    exact K p l e s m args below meth c G A C H locs lsr hP hD hS hL
  | iaload =>
    replace h : sm_ald sh sa st M (fun w st => nx rest ls (.int w :: st) D M) = some v := h
    replace hok : (decide (decode (sm_Ib f) pc = .ok (.iaload, ln)) && decide (ln = 1)) = true := hok
    simp only [Bool.and_eq_true, decide_eq_true_eq] at hok
    obtain ⟨hd, rfl⟩ := hok
    obtain ⟨a, q, t, rfl, ⟨j, n, fs, rfl, hj, hin, h⟩ | ⟨vs, ⟨q0, hq0, rfl, rfl⟩, hin, h⟩⟩ := sm_ald_inv h
    · have K := nxt _ _ _ _ h
      intro p l e s m args below meth c G A C H locs lsr hP hD hS hL
      exact va_iald (ws := sm_ws sh G D M) (f := M (j + 1)) C.1 C.2.1 C.2.2.2.2.2.2.2.1 hP j 0 (sm_ws_at hj) rfl hin hd (K p l e s m args below meth c G A C H locs lsr hP hD hS hL)
    · have K := nxt _ _ _ _ h
      have hpos := V.2.2.2.2.2.2.2.2.2.2 q0 hq0
      intro p l e s m args below meth c G A C H locs lsr hP hD hS hL
      have hst := (C.2.2.2.2.2.2.2.2.1 q0 hq0).2
      have ez : sm_cz (sm_ad G) (.ref q0.1) = .ref (sm_ad G q0.1) := by
        cases hx : q0.1 with
        | zero => omega
        | succ x => rfl
      show W p l e (sm_rm d) s m args below meth c H locs 0 0 _ (F0 m pc lsr (.int a :: sm_cz (sm_ad G) (.ref q0.1) :: t.map (sm_cz (sm_ad G))))
      rw [ez]
      exact va_ti C.1 C.2.1 hst hS hin rfl hd (K p l e s m args below meth c G A C H locs lsr hP hD hS hL)
  | baload =>
    replace h : sm_zld sh st M (fun w st => nx rest ls (.int w :: st) D M) = some v := h
    replace hok : (decide (decode (sm_Ib f) pc = .ok (.baload, ln)) && decide (ln = 1)) = true := hok
    simp only [Bool.and_eq_true, decide_eq_true_eq] at hok
    obtain ⟨hd, rfl⟩ := hok
    obtain ⟨a, j, n, fs, t, rfl, hj, hin, h⟩ := sm_zld_inv h
    have K := nxt _ _ _ _ h
    intro p l e s m args below meth c G A C H locs lsr hP hD hS hL
    exact va_zald (ws := sm_ws sh G D M) (f := M (j + 1)) C.1 C.2.1 C.2.2.2.2.2.2.2.1 hP j 1 (sm_ws_at hj) rfl hin hd (K p l e s m args below meth c G A C H locs lsr hP hD hS hL)
  | iastore =>
    replace h : sm_ast sh st M (fun st M => nx rest ls st D M) = some v := h
    replace hok : (decide (decode (sm_Ib f) pc = .ok (.iastore, ln)) && decide (ln = 1)) = true := hok
    simp only [Bool.and_eq_true, decide_eq_true_eq] at hok
    obtain ⟨hd, rfl⟩ := hok
    obtain ⟨w, a, j, n, fs, t, rfl, hj, hin, h⟩ := sm_ast_inv h
    have K := nxt _ _ _ _ h
    intro p l e s m args below meth c G A C H locs lsr hP hD hS hL
    refine va_iast (ws := sm_ws sh G D M) (f := M (j + 1)) C.1 C.2.1 C.2.2.2.2.2.2.2.1 hP hD hS j 0 (sm_ws_at hj) rfl hin hd (fun H1 locs1 hP1 hD1 hS1 => ?_)
    have ew := sm_ws_up (G := G) (D := D) (M := M) (j := a.toNatClampNeg) (v := w) hj
    exact K p l e s m args below meth c G A C H1 locs1 lsr (ew ▸ hP1) (ew ▸ hD1) hS1 hL
  | bastore =>
    replace h : sm_zst sh st M (fun st M => nx rest ls st D M) = some v := h
    replace hok : (decide (decode (sm_Ib f) pc = .ok (.bastore, ln)) && decide (ln = 1)) = true := hok
    simp only [Bool.and_eq_true, decide_eq_true_eq] at hok
    obtain ⟨hd, rfl⟩ := hok
    obtain ⟨w, a, j, n, fs, t, rfl, hj, hin, hw, h⟩ := sm_zst_inv h
    have K := nxt _ _ _ _ h
    have hn : vp_nar .boolean w = w := by rcases hw with rfl | rfl <;> decide +kernel
    intro p l e s m args below meth c G A C H locs lsr hP hD hS hL
    refine va_zast (ws := sm_ws sh G D M) (f := M (j + 1)) C.1 C.2.1 C.2.2.2.2.2.2.2.1 hP hD hS j 1 (sm_ws_at hj) rfl hin hd (fun H1 locs1 hP1 hD1 hS1 => ?_)
    rw [hn] at hP1 hD1
    have ew := sm_ws_up (G := G) (D := D) (M := M) (j := a.toNatClampNeg) (v := w) hj
    exact K p l e s m args below meth c G A C H1 locs1 lsr (ew ▸ hP1) (ew ▸ hD1) hS1 hL
  | arraylength =>
    replace h : sm_aln sh st (fun w st => nx rest ls (.int w :: st) D M) = some v := h
    replace hok : (decide (decode (sm_Ib f) pc = .ok (.arraylength, ln)) && decide (ln = 1)) = true := hok
    simp only [Bool.and_eq_true, decide_eq_true_eq] at hok
    obtain ⟨hd, rfl⟩ := hok
    obtain ⟨j, n, fs, t, rfl, hj, h⟩ := sm_aln_inv h
    have K := nxt _ _ _ _ h
    intro p l e s m args below meth c G A C H locs lsr hP hD hS hL
    exact va_alen (ws := sm_ws sh G D M) (x := (n, .inl (M (j + 1)))) C.1 C.2.1 C.2.2.2.2.2.2.2.1 hP j 0 (sm_ws_at hj) rfl rfl hd (K p l e s m args below meth c G A C H locs lsr hP hD hS hL)
  | invokevirtual ix =>
    replace h : sm_inv (sm_rcv sh y) cal x z w st D M (fun a st D M => match ts with
      | [] => nx rest ls st D M
      | _ :: _ => nx rest ls (.int a :: st) D M) = some v := h
    replace hok : (decide (decode (sm_Ib f) pc = .ok (.invokevirtual ix, ln)) && (decide (ln = 3 ∧ (sm_Io f, ix, x) ∈ LM) && (match P[x]? with
      | some g => decide (z = sm_In g + 1 ∧ y = sm_Io g ∧ (ts.isEmpty = (sm_Ir g).isNone))
      | none => false))) = true := hok
    simp only [Bool.and_eq_true, decide_eq_true_eq] at hok
    obtain ⟨hd, ⟨rfl, hl⟩, hg⟩ := hok
    obtain ⟨g, hgx, w1, w2, w3, T0, N0, hc⟩ := V.2.2.2.2.1 _ _ _ hl
    rw [hown] at w1
    rw [hgx] at hg
    have hg := of_decide_eq_true hg
    obtain ⟨hz1, hy1, hts⟩ := hg
    obtain ⟨g1, g2, -, g4, g5, g6, -⟩ := V.2.2.2.2.2.2.1 x g hgx
    obtain ⟨as, rs, a, D', M', rfl, hlen, hrs, hrc, hrv, hca, h9⟩ := sm_inv_inv h
    obtain ⟨j, fs, t, rfl, hj⟩ := sm_rcv_inv hrv
    obtain ⟨d', hd', hM⟩ : ∃ d', d' + 1 ≤ d ∧ sm_MJ TT cls sa sh g d' (.ref (j + 1) :: t) D M (a, D', M') := by
      rcases hcal x g _ D M _ hgx hca with h1 | h1
      · exact h1
      · obtain ⟨-, -, -, -, -, a', b', h2, -⟩ := h1
        cases h2
    have K : sm_WJ TT cls sa sh f d (pc + 3) ls ((sm_rv (sm_Ir g) a).toList ++ rs) D' M' R := by
      cases hre : sm_Ir g with
      | none =>
        rw [hre] at hts
        cases ts with
        | nil => exact nxt _ _ _ _ h9
        | cons _ _ => cases hts
      | some _ =>
        rw [hre] at hts
        cases ts with
        | nil => cases hts
        | cons _ _ => exact nxt _ _ _ _ h9
    intro p l e s m args below meth c G A C H locs lsr hP hD hS hL
    have hA1 : ∀ q, va_A (sm_ws sh G D M) H.size q → A q := by
      intro q hq
      rcases hq with ⟨k, e', hq⟩ | hq
      · exact hD.2 k _ hq
      · exact C.2.2.2.2.2.2.2.2.2 q (Nat.le_trans hS.1 hq)
    have hgood : ∀ w ∈ wsV (sm_Iy f).cls ix (sm_Iy g).cls (sm_Iy g) (sm_wd TT g), w ∈ TT ∧ ((w.onTables && w.keeps) = true ∨ ∃ ty, w = .arrayClass ty) := by
      intro w hw
      have hin : w ∈ TT := by
        simp only [wsV, sm_wd, List.mem_append, List.mem_cons, List.not_mem_nil, or_false] at hw
        rcases hw with (rfl | rfl | rfl | rfl) | (rfl | hw)
        · exact w1
        · exact w2
        · exact w3
        · exact g2
        · exact g1
        · exact hw
      exact ⟨hin, good_of_word (V.1 w hin)⟩
    have hrec : ∃ cellB : Cell, H[sm_ad G (j + 1)]? = some cellB ∧ cellB.vm.isStatics = false ∧ s.vm.findClass (sm_Iy g).cls = some cellB.cls := va_recv C.2.2.2.2.2.2.2.1 hP (hy1 ▸ hc) (sm_ws_at hj)
    have hsum : ((rs.map (sm_cz (sm_ad G))).map fun v => v.category).sum ≤ 8 := Nat.le_trans (sm_cat_sum (fun w hw => Nat.le_of_eq (sm_c1_cat (hrc w hw)))) hrs
    have hrun := va_runV (l := l) (e := e) (below := below) (meth := meth) (locs := locs) (cells := 0) (slots := 0) (R := sm_rm d) (b := sm_ad G (j + 1)) (As := t.map (sm_cz (sm_ad G))) (rest := rs.map (sm_cz (sm_ad G))) (g := F0 m pc lsr ((((.ref (j + 1) :: t).reverse ++ rs)).map (sm_cz (sm_ad G)))) (H := H)
      ⟨C.1, C.2.1, C.2.2.1, C.2.2.2.2.2.2.1, C.2.2.2.2.2.1⟩ (hM l G H.size)
      (cwV (R := sm_rm d) (rm := sm_rm d') (mc := 0) (ms := 0) (sm_In g) C.2.2.2.2.2.1 hgood rfl rfl rfl ⟨rfl, g4⟩ ⟨hd', by show 8 + (sm_Il g + 11) + d' * 64 ≤ d * 64; omega⟩)
      ⟨sm_blind, hrec, fun U hU hW => ⟨rfl, by rw [hU], by rw [hU]; exact hP, va_K.moved hW.alike C.2.2.2.2.2.2.2.1, hD.weaken (fun _ _ _ _ => trivial), sm_sta.to C.2.2.2.2.2.2.2.2.1 hS hA1 hU hW.alike⟩⟩
      rfl (by simp at hlen ⊢; omega) hL.2.1 (by simp [sm_cz, List.map_append, List.map_reverse]) (lv_room hsum) hd ⟨Nat.le_refl _, Nat.le_refl _⟩
    refine sm_callr hrun hS hA1 (fun t1 H1 locs1 hal hP1 hD1 hS1 => ?_)
    have KK := K p l e s m args below meth c G A C H1 locs1 lsr hP1 (hD1.weaken (fun _ _ _ hq => hA1 _ hq)) hS1 hL
    cases hre : sm_Ir g with
    | none => rw [hre] at KK; exact KK
    | some _ => rw [hre] at KK; exact KK
  | invokestatic ix =>
    replace h : sm_inv (fun _ => true) cal x z w st D M (fun a st D M => match ts with
      | [] => nx rest ls st D M
      | _ :: _ => nx rest ls (.int a :: st) D M) = some v := h
    replace hok : (decide (decode (sm_Ib f) pc = .ok (.invokestatic ix, ln)) && (decide (ln = 3 ∧ (sm_Io f, ix, x) ∈ LN) && (match P[x]? with
      | some g => decide (z = sm_In g ∧ (ts.isEmpty = (sm_Ir g).isNone))
      | none => false))) = true := hok
    simp only [Bool.and_eq_true, decide_eq_true_eq] at hok
    obtain ⟨hd, ⟨rfl, hl⟩, hg⟩ := hok
    obtain ⟨g, hgx, w1, w2⟩ := V.2.2.2.2.2.1 _ _ _ hl
    rw [hown] at w1
    rw [hgx] at hg
    have hg := of_decide_eq_true hg
    obtain ⟨hz1, hts⟩ := hg
    obtain ⟨g1, g2, -, g4, g5, g6, -⟩ := V.2.2.2.2.2.2.1 x g hgx
    obtain ⟨as, rs, a, D', M', rfl, hlen, hrs, hrc, -, hca, h9⟩ := sm_inv_inv h
    have K : sm_WJ TT cls sa sh f d (pc + 3) ls ((sm_rv (sm_Ir g) a).toList ++ rs) D' M' R := by
      cases hre : sm_Ir g with
      | none =>
        rw [hre] at hts
        cases ts with
        | nil => exact nxt _ _ _ _ h9
        | cons _ _ => cases hts
      | some _ =>
        rw [hre] at hts
        cases ts with
        | nil => cases hts
        | cons _ _ => exact nxt _ _ _ _ h9
    have hmj := hcal x g _ D M _ hgx hca
    intro p l e s m args below meth c G A C H locs lsr hP hD hS hL
    have hsum : ((rs.map (sm_cz (sm_ad G))).map fun v => v.category).sum ≤ 8 := Nat.le_trans (sm_cat_sum (fun w hw => Nat.le_of_eq (sm_c1_cat (hrc w hw)))) hrs
    rcases hmj with ⟨d', hd', hM⟩ | ⟨hd1, e1, e2, e3, e4, a', b', rfl, he⟩
    rotate_left
    · cases he
      rw [e4] at K
      rw [e1] at w1 w2
      rw [e1] at g2
      rw [e1, e2, e3, e4] at g1
      exact va_mmax C.1 C.2.1 (C.2.2.1.trans hL.2.1.symm) C.2.2.2.2.2.2.1 (C.2.2.2.2.2.1 _ w1) (C.2.2.2.2.2.1 _ w2) (C.2.2.2.2.2.1 _ g2) (C.2.2.2.2.2.1 _ g1) hd1 (Nat.le_trans (Nat.add_le_add_right hsum 13) (by show 8 + 13 ≤ d * 64; omega)) (Nat.le_refl _) (Nat.le_refl _) hd (K p l e s m args below meth c G A C H locs lsr hP hD hS hL)
    have hA1 : ∀ q, va_A (sm_ws sh G D M) H.size q → A q := by
      intro q hq
      rcases hq with ⟨k, e', hq⟩ | hq
      · exact hD.2 k _ hq
      · exact C.2.2.2.2.2.2.2.2.2 q (Nat.le_trans hS.1 hq)
    have hgood : ∀ w ∈ va_wsS (sm_Iy f).cls ix (sm_Iy g) (sm_wd TT g), w ∈ TT ∧ ((w.onTables && w.keeps) = true ∨ ∃ ty, w = .arrayClass ty) := by
      intro w hw
      have hin : w ∈ TT := by
        simp only [va_wsS, sm_wd, List.mem_append, List.mem_cons, List.not_mem_nil, or_false] at hw
        rcases hw with (rfl | rfl | rfl) | (rfl | hw)
        · exact w1
        · exact w2
        · exact g2
        · exact g1
        · exact hw
      exact ⟨hin, good_of_word (V.1 w hin)⟩
    have hrun := va_runS (l := l) (e := e) (below := below) (meth := meth) (locs := locs) (cells := 0) (slots := 0) (R := sm_rm d) (As := as.map (sm_cz (sm_ad G))) (rest := rs.map (sm_cz (sm_ad G))) (g := F0 m pc lsr (((as.reverse ++ rs)).map (sm_cz (sm_ad G)))) (H := H)
      ⟨C.1, C.2.1, C.2.2.1, C.2.2.2.2.2.2.1, C.2.2.2.2.2.1⟩ (hM l G H.size)
      (va_cwS (R := sm_rm d) (rm := sm_rm d') (mc := 0) (ms := 0) (sm_In g) C.2.2.2.2.2.1 hgood rfl rfl rfl g4 ⟨hd', by show 8 + (sm_Il g + 11) + d' * 64 ≤ d * 64; omega⟩)
      ⟨sm_blind, fun U hU hW => ⟨rfl, by rw [hU], by rw [hU]; exact hP, va_K.moved hW.alike C.2.2.2.2.2.2.2.1, hD.weaken (fun _ _ _ _ => trivial), sm_sta.to C.2.2.2.2.2.2.2.2.1 hS hA1 hU hW.alike⟩⟩
      rfl (by simp; omega) hL.2.1 (by simp [List.map_append, List.map_reverse]) (lv_room hsum) hd ⟨Nat.le_refl _, Nat.le_refl _⟩
    refine sm_callr hrun hS hA1 (fun t1 H1 locs1 hal hP1 hD1 hS1 => ?_)
    have KK := K p l e s m args below meth c G A C H1 locs1 lsr hP1 (hD1.weaken (fun _ _ _ hq => hA1 _ hq)) hS1 hL
    cases hre : sm_Ir g with
    | none => rw [hre] at KK; exact KK
    | some _ => rw [hre] at KK; exact KK
  | ireturn =>
    replace h : sm_p1 st (fun a st => sm_re st zr a (ret a D M)) = some v := h
    replace hok : (decide (decode (sm_Ib f) pc = .ok (.ireturn, ln)) && decide (ln = 1 ∧ (sm_Ir f).isSome = true)) = true := hok
    simp only [Bool.and_eq_true, decide_eq_true_eq] at hok
    obtain ⟨hd, rfl, hsm⟩ := hok
    obtain ⟨a, t, rfl, h⟩ := sm_p1_inv h
    obtain ⟨rfl, hzb, h⟩ := sm_re_inv h
    have hR := hret a D M v h hv
    subst hR
    intro p l e s m args below meth c G A C H locs lsr hP hD hS hL
    have hpost : ∀ (tz : FieldType), sm_Ir f = some tz → ∀ t : State, t.heap = H → s.WarmedH t.vm → sm_Qc cls sh G A (sm_Ir f) (a, D, M) args s (.returned (some (.int a))) t := by
      intro tz htz t ht hW
      refine ⟨by rw [htz]; rfl, ⟨by rw [ht]; exact hP, va_K.moved hW.alike C.2.2.2.2.2.2.2.1, hD⟩, hS.F ht⟩
    rcases (V.2.2.2.2.2.2.1 kx f hf).2.2.2.2.2.1 with h1 | h1 | h1
    · rw [h1] at hsm; cases hsm
    · exact W.zret (ty := .int) C.1 C.2.1 (C.2.2.2.1.trans h1) rfl (hpost _ h1) hS.2.2 hd (hlocks := C.2.2.2.2.1)
    · have hz2 : zr = true := by rw [hz, h1]; decide
      have hn : narrow .boolean (.int a) = .int a := by rcases hzb hz2 with rfl | rfl <;> decide +kernel
      exact W.zret (ty := .boolean) C.1 C.2.1 (C.2.2.2.1.trans h1) hn (hpost _ h1) hS.2.2 hd (hlocks := C.2.2.2.2.1)
  | return_ =>
    replace h : sm_re st false 0 (ret 0 D M) = some v := h
    replace hok : (decide (decode (sm_Ib f) pc = .ok (.return_, ln)) && decide (ln = 1 ∧ (sm_Ir f).isSome = false)) = true := hok
    simp only [Bool.and_eq_true, decide_eq_true_eq] at hok
    obtain ⟨hd, rfl, hsm⟩ := hok
    obtain ⟨rfl, -, h⟩ := sm_re_inv h
    have hR := hret 0 D M v h hv
    subst hR
    intro p l e s m args below meth c G A C H locs lsr hP hD hS hL
    rcases (V.2.2.2.2.2.2.1 kx f hf).2.2.2.2.2.1 with h1 | h1 | h1
    · exact W.vret C.1 C.2.1 (C.2.2.2.1.trans h1) (fun t ht hW => ⟨by rw [h1]; rfl, ⟨by rw [ht]; exact hP, va_K.moved hW.alike C.2.2.2.2.2.2.2.1, hD⟩, hS.F ht⟩) hS.2.2 hd (hlocks := C.2.2.2.2.1)
    · rw [h1] at hsm; cases hsm
    · rw [h1] at hsm; cases hsm
  | _ => cases h
end
