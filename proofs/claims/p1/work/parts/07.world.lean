/-! the world's cells by places -/
theorem sm_drop {α : Type} {l : List α} {t : Nat} {q : α} (h : l[t]? = some q) : l.drop t = q :: l.drop (t + 1) := by
  obtain ⟨hl, e⟩ := List.getElem?_eq_some_iff.mp h
  rw [List.drop_eq_getElem_cons hl, e]
theorem sm_ws_at {sh : List sm_Sh} {G : sm_G} {D : sm_D} {M : sm_M} {i : Nat} {h : sm_Sh} (hi : sh[i]? = some h) : (sm_ws sh G D M)[i]? = some (sm_ad G (i + 1), sm_ce G D (M (i + 1)) h) := by
  unfold sm_ws
  rw [List.getElem?_mapIdx, hi]
  rfl
theorem sm_ws_len {sh : List sm_Sh} {G : sm_G} {D : sm_D} {M : sm_M} : (sm_ws sh G D M).length = sh.length := by
  unfold sm_ws
  simp
theorem sm_ws_get {sh : List sm_Sh} {G : sm_G} {D : sm_D} {M : sm_M} {i : Nat} : (sm_ws sh G D M)[i]? = (sh[i]?).map (fun h => (sm_ad G (i + 1), sm_ce G D (M (i + 1)) h)) := by
  unfold sm_ws
  rw [List.getElem?_mapIdx]
theorem sm_up_same {M : sm_M} {p j : Nat} {v : Int32} : sm_up M p j v p = upd (M p) j v := by unfold sm_up; rw [if_pos rfl]
theorem sm_up_ne {M : sm_M} {p q j : Nat} {v : Int32} (h : q ≠ p) : sm_up M p j v q = M q := by unfold sm_up; rw [if_neg h]
/-- one cell's contents change -/
theorem sm_ws_set {sh : List sm_Sh} {G : sm_G} {D : sm_D} {M : sm_M} {i : Nat} {h : sm_Sh} {f : Nat → Int32} {M' : sm_M} (hi : sh[i]? = some h) (h1 : M' (i + 1) = f) (h2 : ∀ q, q ≠ i + 1 → M' q = M q) :
    (sm_ws sh G D M).set i (sm_ad G (i + 1), sm_ce G D f h) = sm_ws sh G D M' := by
  have hl : i < (sm_ws sh G D M).length := by rw [sm_ws_len]; exact (List.getElem?_eq_some_iff.mp hi).1
  apply List.ext_getElem?
  intro j
  by_cases hj : j = i
  · subst hj
    rw [List.getElem?_set_self hl, sm_ws_at hi, h1]
  · rw [List.getElem?_set_ne (Ne.symm hj), sm_ws_get, sm_ws_get]
    cases hs : sh[j]? with
    | none => rfl
    | some g => simp only [Option.map_some]; rw [h2 (j + 1) (by omega)]
theorem sm_ws_up {sh : List sm_Sh} {G : sm_G} {D : sm_D} {M : sm_M} {i j : Nat} {h : sm_Sh} {v : Int32} (hi : sh[i]? = some h) :
    (sm_ws sh G D M).set i (sm_ad G (i + 1), sm_ce G D (upd (M (i + 1)) j v) h) = sm_ws sh G D (sm_up M (i + 1) j v) := sm_ws_set hi sm_up_same (fun _ hq => sm_up_ne hq)
/-- a field of an object, an int -/
theorem sm_fs_set {G : sm_G} {D : sm_D} {f : Nat → Int32} {fs : List (Nat × Nat)} {k a b : Nat} {v : Int32} (hk : fs[k]? = some (a, b)) (ha : a = 0 ∨ a = 3) :
    (fs.mapIdx (fun k t => sm_fv (sm_ad G) D f k t)).set k (.int v) = fs.mapIdx (fun k' t => sm_fv (sm_ad G) D (upd f k v) k' t) := by
  have hl : k < fs.length := (List.getElem?_eq_some_iff.mp hk).1
  apply List.ext_getElem?
  intro j
  by_cases hj : j = k
  · subst hj
    rw [List.getElem?_set_self (by simpa using hl), List.getElem?_mapIdx, hk]
    rcases ha with rfl | rfl <;> simp [sm_fv, upd]
  · rw [List.getElem?_set_ne (Ne.symm hj), List.getElem?_mapIdx, List.getElem?_mapIdx]
    cases hs : fs[j]? with
    | none => rfl
    | some t =>
      obtain ⟨x, y⟩ := t
      simp only [Option.map_some, Option.some.injEq]
      unfold sm_fv
      split <;> first | rfl | (unfold upd; rw [if_neg hj])
/-- a field of an object, a cell -/
theorem sm_fs_setD {G : sm_G} {D : sm_D} {f : Nat → Int32} {fs : List (Nat × Nat)} {k j q : Nat} (hk : fs[k]? = some (2, j)) (hD : j < D.length) (hu : ∀ k', fs[k']? = some (2, j) → k' = k) :
    (fs.mapIdx (fun k t => sm_fv (sm_ad G) D f k t)).set k (sm_cz (sm_ad G) (.ref q)) = fs.mapIdx (fun k' t => sm_fv (sm_ad G) (D.set j q) f k' t) := by
  have hl : k < fs.length := (List.getElem?_eq_some_iff.mp hk).1
  apply List.ext_getElem?
  intro i
  by_cases hj : i = k
  · subst hj
    rw [List.getElem?_set_self (by simpa using hl), List.getElem?_mapIdx, hk]
    simp [sm_fv, List.getD, List.getElem?_set_self hD]
  · rw [List.getElem?_set_ne (Ne.symm hj), List.getElem?_mapIdx, List.getElem?_mapIdx]
    cases hs : fs[i]? with
    | none => rfl
    | some t =>
      obtain ⟨x, y⟩ := t
      simp only [Option.map_some, Option.some.injEq]
      match x, hs with
      | 0, _ => rfl
      | 1, _ => rfl
      | 2, hs =>
        have hne : j ≠ y := fun e => hj (hu i (by rw [hs, e]))
        show sm_cz (sm_ad G) (.ref (D.getD y 0)) = sm_cz (sm_ad G) (.ref ((D.set j q).getD y 0))
        simp [List.getD, List.getElem?_set_ne hne]
      | _ + 3, _ => rfl
theorem sm_ce_D {G : sm_G} {D D' : sm_D} {f : Nat → Int32} {h : sm_Sh} (hf : ∀ (c : Nat) (fs : List (Nat × Nat)), h = (2, c, fs) → ∀ (k j : Nat), fs[k]? = some (2, j) → D'.getD j 0 = D.getD j 0) (hx : h.1 = 0 ∨ h.1 = 1 ∨ h.1 = 2) : sm_ce G D' f h = sm_ce G D f h := by
  obtain ⟨a, c, fs⟩ := h
  rcases hx with e | e | e
  · cases e; rfl
  · cases e; rfl
  · cases e
    show Sum.inr _ = Sum.inr _
    congr 2
    apply List.ext_getElem?
    intro j
    rw [List.getElem?_mapIdx, List.getElem?_mapIdx]
    cases hs : fs[j]? with
    | none => rfl
    | some t =>
      obtain ⟨x, y⟩ := t
      simp only [Option.map_some, Option.some.injEq]
      match x, hs with
      | 0, _ => rfl
      | 1, _ => rfl
      | 2, hs =>
        show sm_cz (sm_ad G) (.ref (D'.getD y 0)) = sm_cz (sm_ad G) (.ref (D.getD y 0))
        rw [hf c fs rfl j y hs]
      | _ + 3, _ => rfl
theorem sm_ws_setD {sh : List sm_Sh} {G : sm_G} {D : sm_D} {M : sm_M} {i c k j q : Nat} {fs : List (Nat × Nat)} (hi : sh[i]? = some (2, c, fs)) (hk : fs[k]? = some (2, j)) (hD : j < D.length)
    (hu : ∀ (i' c' : Nat) (fs' : List (Nat × Nat)) (k' : Nat), sh[i']? = some (2, c', fs') → fs'[k']? = some (2, j) → i' = i ∧ k' = k) (hx : ∀ (i : Nat) (h : sm_Sh), sh[i]? = some h → h.1 = 0 ∨ h.1 = 1 ∨ h.1 = 2) :
    (sm_ws sh G D M).set i (sm_ad G (i + 1), .inr (c, (fs.mapIdx (fun k t => sm_fv (sm_ad G) D (M (i + 1)) k t)).set k (sm_cz (sm_ad G) (.ref q)))) = sm_ws sh G (D.set j q) M := by
  have hl : i < (sm_ws sh G D M).length := by rw [sm_ws_len]; exact (List.getElem?_eq_some_iff.mp hi).1
  apply List.ext_getElem?
  intro n
  by_cases hj : n = i
  · subst hj
    rw [List.getElem?_set_self hl, sm_ws_at hi, sm_fs_setD hk hD (fun k' hk' => (hu n c fs k' hi hk').2)]
    rfl
  · rw [List.getElem?_set_ne (Ne.symm hj), sm_ws_get, sm_ws_get]
    cases hs : sh[n]? with
    | none => rfl
    | some g =>
      simp only [Option.map_some, Option.some.injEq, Prod.mk.injEq, true_and]
      refine (sm_ce_D (fun c' fs' he k' j' hk' => ?_) (hx n g hs)).symm
      subst he
      have hne : j ≠ j' := fun e => hj (hu n c' fs' k' hs (by rw [hk', e])).1
      simp [List.getD, List.getElem?_set_ne hne]
/-! the locals -/
theorem sm_L_int {ad : Nat → Nat} {lsr : Array Slot} {nL : Nat} {ls : List Value} {i : Nat} {x : Int32} (h : sm_L ad lsr nL ls) (hi : ls[i]? = some (.int x)) : lsr[i]? = some (.val (.int x)) := by
  rcases h.2.2.2 i _ hi with h | ⟨-, h⟩
  · cases h
  · exact h
theorem sm_L_ref {ad : Nat → Nat} {lsr : Array Slot} {nL : Nat} {ls : List Value} {i p : Nat} (h : sm_L ad lsr nL ls) (hi : ls[i]? = some (.ref (p + 1))) : lsr[i]? = some (.val (.ref (ad (p + 1)))) := by
  rcases h.2.2.2 i _ hi with h | ⟨-, h⟩
  · cases h
  · exact h
theorem sm_c1_cat {ad : Nat → Nat} {v : Value} (h : sm_c1 v = true) : (sm_cz ad v).category = 1 := by
  cases v with
  | int x => rfl
  | ref p => cases p <;> rfl
  | _ => cases h
/-- the pairs that the list names -/
def sm_prs (ad : Nat → Nat) (ls : List Value) : List (Nat × Value) := (ls.mapIdx (fun i v => (i, v))).filterMap (fun q => if sm_c1 q.2 = true then some (q.1, sm_cz ad q.2) else none)
theorem sm_prs_mem {ad : Nat → Nat} {ls : List Value} {q : Nat × Value} (h : q ∈ sm_prs ad ls) : ∃ v, ls[q.1]? = some v ∧ sm_c1 v = true ∧ q.2 = sm_cz ad v := by
  obtain ⟨⟨i, v⟩, h1, h2⟩ := List.mem_filterMap.mp h
  obtain ⟨n, hn⟩ := List.getElem?_of_mem h1
  rw [List.getElem?_mapIdx] at hn
  cases hs : ls[n]? with
  | none => rw [hs] at hn; cases hn
  | some w =>
    rw [hs] at hn
    simp only [Option.map_some, Option.some.injEq, Prod.mk.injEq] at hn
    obtain ⟨rfl, rfl⟩ := hn
    dsimp only at h2
    split at h2
    · rename_i hc
      cases h2
      exact ⟨w, hs, hc, rfl⟩
    · cases h2
theorem sm_prs_in {ad : Nat → Nat} {ls : List Value} {i : Nat} {v : Value} (h : ls[i]? = some v) (hc : sm_c1 v = true) : (i, sm_cz ad v) ∈ sm_prs ad ls := by
  refine List.mem_filterMap.mpr ⟨(i, v), ?_, by dsimp only; rw [if_pos hc]⟩
  apply List.mem_of_getElem? (i := i)
  rw [List.getElem?_mapIdx, h]
  rfl
theorem sm_L_has {ad : Nat → Nat} {lsr : Array Slot} {nL : Nat} {ls : List Value} (h : sm_L ad lsr nL ls) : lv_has lsr nL (sm_prs ad ls) := by
  refine ⟨h.2.1, h.2.2.1, fun q hq => ?_⟩
  obtain ⟨v, h1, h2, h3⟩ := sm_prs_mem hq
  rcases h.2.2.2 q.1 v h1 with e | ⟨-, e⟩
  · rw [e] at h2; cases h2
  · rw [h3]; exact e
theorem sm_L_set {ad : Nat → Nat} {lsr ls' : Array Slot} {nL : Nat} {ls : List Value} {i : Nat} {v : Value} (h : sm_L ad lsr nL ls) (hv : sm_c1 v = true)
    (h' : lv_has ls' nL ((i, sm_cz ad v) :: (sm_prs ad ls).filter (fun q => !(q.1 == i) && !(q.1 + 1 == i && q.2.category == 2)))) : sm_L ad ls' nL (ls.set i v) := by
  refine ⟨by rw [List.length_set]; exact h.1, h'.1, h'.2.1, fun j w hj => ?_⟩
  by_cases hji : j = i
  · subst hji
    by_cases hl : j < ls.length
    · rw [List.getElem?_set_self hl] at hj
      cases hj
      exact Or.inr ⟨hv, h'.2.2 _ List.mem_cons_self⟩
    · rw [List.getElem?_eq_none (by rw [List.length_set]; omega)] at hj
      cases hj
  · rw [List.getElem?_set_ne (Ne.symm hji)] at hj
    rcases h.2.2.2 j w hj with e | ⟨e, -⟩
    · exact Or.inl e
    · refine Or.inr ⟨e, h'.2.2 (j, sm_cz ad w) (List.mem_cons_of_mem _ (List.mem_filter.mpr ⟨sm_prs_in hj e, ?_⟩))⟩
      simp [hji, sm_c1_cat e]
theorem sm_sl {vs : List Value} (h : ∀ v ∈ vs, v.category = 1) : lg_sl vs = vs.map Slot.val := by
  induction vs with
  | nil => rfl
  | cons a t ih =>
    have h1 := h a List.mem_cons_self
    have h2 := ih (fun v hv => h v (List.mem_cons_of_mem _ hv))
    unfold lg_sl at h2 ⊢
    rw [List.flatMap_cons, h2, if_neg (by omega)]
    rfl
theorem sm_L_entry {ad : Nat → Nat} {as : List Value} {nL : Nat} (hl : as.length ≤ nL) (hc : ∀ v ∈ as, sm_c1 v = true) :
    sm_L ad ((lg_sl (as.map (sm_cz ad)) ++ List.replicate (nL - (lg_sl (as.map (sm_cz ad))).length) Slot.unset).toArray) nL (as ++ List.replicate (nL - as.length) (.retAddr 0)) := by
  have h1 : lg_sl (as.map (sm_cz ad)) = (as.map (sm_cz ad)).map Slot.val := sm_sl (fun v hv => by
    obtain ⟨w, hw, rfl⟩ := List.mem_map.mp hv
    exact sm_c1_cat (hc w hw))
  have h2 := lv_entry (as.map (sm_cz ad)) (n := nL) (by rw [h1]; simpa using hl)
  refine ⟨by simp; omega, h2.1, h2.2.1, fun i v hi => ?_⟩
  by_cases hia : i < as.length
  · rw [List.getElem?_append_left hia] at hi
    refine Or.inr ⟨hc v (List.mem_of_getElem? hi), ?_⟩
    rw [h1, List.getElem?_toArray, List.getElem?_append_left (by simpa using hia)]
    simp [hi]
  · rw [List.getElem?_append_right (by omega)] at hi
    exact Or.inl (List.eq_of_mem_replicate (List.mem_of_getElem? hi))
