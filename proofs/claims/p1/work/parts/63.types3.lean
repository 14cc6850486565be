/-! the table is read, and shrinks -/
theorem tabC.lt {M : sm_M} {L : List Ty} (hT : tabC M L) : L.length < 2 ^ 31 := by have := hT.1; omega
theorem j_has {M : sm_M} {D : sm_D} {L : List Ty} (hT : tabC M L) (x : Int32) : (∃ (i : Nat) (t : Ty), L[i]? = some t ∧ x = nI i ∧ jT_has x D M = some (1, D, M)) ∨ ((x < 0 ∨ nI L.length ≤ x) ∧ jT_has x D M = some (0, D, M)) := by
  have hc := hT.2.1
  have hlen := hT.1
  have h0 : jT_has_16 D M = some (0, D, M) := by unfold jT_has_16 jT_has_17; rw [bo_0]
  rcases pk_ix x (n := L.length) (by omega) with h | h | ⟨j, hj, rfl⟩
  · refine Or.inr ⟨Or.inl h, ?_⟩
    unfold jT_has
    rw [if_pos h, h0]
  · refine Or.inr ⟨Or.inr h, ?_⟩
    unfold jT_has
    by_cases h1 : x < 0
    · rw [if_pos h1, h0]
    · rw [if_neg h1, hc, if_neg (Int32.not_lt.mpr h), h0]
  · refine Or.inl ⟨j, L[j], List.getElem?_eq_getElem hj, rfl, ?_⟩
    unfold jT_has jT_has_17
    rw [if_neg (nI_pos (by omega)), hc, if_pos (nI_lt hj (by omega)), bo_1]
theorem j_has_in {M : sm_M} {D : sm_D} {L : List Ty} (hT : tabC M L) {i : Nat} {t : Ty} (h : L[i]? = some t) : jT_has (nI i) D M = some (1, D, M) := by
  have hi := (List.getElem?_eq_some_iff.mp h).1
  have hlen := hT.1
  rcases j_has (D := D) hT (nI i) with ⟨_, _, _, _, h1⟩ | ⟨h1 | h1, -⟩
  · exact h1
  · exact absurd h1 (nI_pos (by omega))
  · exact absurd h1 (nI_ge hi (by omega))
theorem j_has_m1 {M : sm_M} {D : sm_D} : jT_has (-1) D M = some (0, D, M) := by
  unfold jT_has
  rw [if_pos m1_lt]
  unfold jT_has_16 jT_has_17
  rw [bo_0]
theorem j_kindOf {M : sm_M} {D : sm_D} {L : List Ty} (hT : tabC M L) {i : Nat} {t : Ty} (h : L[i]? = some t) : jT_kindOf (nI i) D M = some (M 2 i, D, M) := by
  have hi := (List.getElem?_eq_some_iff.mp h).1
  have hlen := hT.1
  unfold jT_kindOf
  rw [j_has_in hT h, bi_some, dq_self, if_neg (by decide), ck_nI (by omega) (by decide), nI_clamp (by omega)]
  rfl
theorem j_firstOf {M : sm_M} {D : sm_D} {L : List Ty} (hT : tabC M L) {i : Nat} {t : Ty} (h : L[i]? = some t) : jT_firstOf (nI i) D M = some (M 3 i, D, M) := by
  have hi := (List.getElem?_eq_some_iff.mp h).1
  have hlen := hT.1
  unfold jT_firstOf
  rw [j_has_in hT h, bi_some, dq_self, if_neg (by decide), ck_nI (by omega) (by decide), nI_clamp (by omega)]
  rfl
theorem j_secondOf {M : sm_M} {D : sm_D} {L : List Ty} (hT : tabC M L) {i : Nat} {t : Ty} (h : L[i]? = some t) : jT_secondOf (nI i) D M = some (M 4 i, D, M) := by
  have hi := (List.getElem?_eq_some_iff.mp h).1
  have hlen := hT.1
  unfold jT_secondOf
  rw [j_has_in hT h, bi_some, dq_self, if_neg (by decide), ck_nI (by omega) (by decide), nI_clamp (by omega)]
  rfl
theorem j_thirdOf {M : sm_M} {D : sm_D} {L : List Ty} (hT : tabC M L) {i : Nat} {t : Ty} (h : L[i]? = some t) : jT_thirdOf (nI i) D M = some (M 5 i, D, M) := by
  have hi := (List.getElem?_eq_some_iff.mp h).1
  have hlen := hT.1
  unfold jT_thirdOf
  rw [j_has_in hT h, bi_some, dq_self, if_neg (by decide), ck_nI (by omega) (by decide), nI_clamp (by omega)]
  rfl
theorem j_kindOf_m1 {M : sm_M} {D : sm_D} : jT_kindOf (-1) D M = some (-1, D, M) := by
  unfold jT_kindOf
  rw [j_has_m1, bi_some, dq_self, if_pos rfl]
  rfl
theorem j_firstOf_m1 {M : sm_M} {D : sm_D} : jT_firstOf (-1) D M = some (-1, D, M) := by
  unfold jT_firstOf
  rw [j_has_m1, bi_some, dq_self, if_pos rfl]
  rfl
theorem j_secondOf_m1 {M : sm_M} {D : sm_D} : jT_secondOf (-1) D M = some (-1, D, M) := by
  unfold jT_secondOf
  rw [j_has_m1, bi_some, dq_self, if_pos rfl]
  rfl
theorem j_thirdOf_m1 {M : sm_M} {D : sm_D} : jT_thirdOf (-1) D M = some (-1, D, M) := by
  unfold jT_thirdOf
  rw [j_has_m1, bi_some, dq_self, if_pos rfl]
  rfl
/-- what the row of a made type holds -/
theorem tabC.row {M : sm_M} {L : List Ty} (hT : tabC M L) {i n : Nat} {o1 o2 o3 : Option Ty} (h : L[i]? = some (ty_mk n o1 o2 o3)) : n < 5 ∧ M 2 i = nI n ∧ ty_pr L (M 3 i) o1 ∧ ty_pr L (M 4 i) o2 ∧ ty_pr L (M 5 i) o3 := by
  obtain ⟨hs, -⟩ := hT.2.2.2.1 i _ h
  have hg' : ∀ {x : Int32} {o : Option Ty}, ty_pr (L.take i) x o → ty_pr L x o := by
    intro x o h
    have := h.grow (K := L.drop i)
    rwa [List.take_append_drop] at this
  rcases hs with ⟨n', p1, p2, p3, hn', ht, hk, q1, q2, q3⟩ | ⟨n', ht, -⟩
  · obtain ⟨en, e1, e2, e3⟩ := ty_mk_inj ht
    subst en; subst e1; subst e2; subst e3
    exact ⟨hn', hk, hg' q1, hg' q2, hg' q3⟩
  · exact absurd ht ty_mk_hid
theorem tabC.rowH {M : sm_M} {L : List Ty} (hT : tabC M L) {i n : Nat} (h : L[i]? = some (ty_hid n)) : M 2 i = 5 := by
  obtain ⟨hs, -⟩ := hT.2.2.2.1 i _ h
  rcases hs with ⟨n', p1, p2, p3, hn', ht, -⟩ | ⟨n', ht, hk, -⟩
  · exact absurd ht.symm ty_mk_hid
  · exact hk
theorem j_hidden {M : sm_M} {D : sm_D} {L : List Ty} (hT : tabC M L) (hl : L.length < 800) (m : Nat) (hm : ty_hid m ∉ L) : ∃ M', jT_hidden D M = some (nI L.length, D, M') ∧ tabC M' (L ++ [ty_hid m]) ∧ ∀ q, 8 < q → M' q = M q := by
  have hc := hT.2.1
  have hs1 : jT_sizeOf (nI L.length) D M = some (nI (ty_so none), D, M) := by
    unfold jT_sizeOf
    rw [if_neg (nI_pos (by omega)), hc, if_neg (nI_nlt (Nat.le_refl _) (by omega))]
    rfl
  have hno : ∀ j, j < L.length → ¬ trow M j 5 (nI L.length) (-1) (-1) := by
    intro j hj ⟨e1, e2, e3, e4⟩
    have hg : L[j]? = some L[j] := List.getElem?_eq_getElem hj
    obtain ⟨hs, -⟩ := hT.2.2.2.1 j _ hg
    rw [e1, e2, e3, e4] at hs
    rcases hs with ⟨n', p1, p2, p3, hn', ht, hk, -⟩ | ⟨n', ht, -, ha, -⟩
    · have : nI 5 = nI n' := hk
      have := nI_inj (by omega) (by omega) this
      omega
    · have := nI_inj (by omega) (by omega) ha
      omega
  obtain ⟨M', h1, h2, h3⟩ := j_find_new (D := D) (o1 := none) (o2 := none) (o3 := none) (t := ty_hid m) hT hl hno hs1 (j_sizeOf hT (Or.inl ⟨rfl, rfl⟩)) (j_sizeOf hT (Or.inl ⟨rfl, rfl⟩)) rfl hm (Or.inr ⟨m, rfl, rfl, rfl, rfl, rfl⟩)
  refine ⟨M', ?_, h2, h3⟩
  unfold jT_hidden
  rw [hc, h1, bi_some, dq_self]
def fgM (M : sm_M) (n β : Nat) : sm_M := sm_up (sm_up M 1 7 (nI n)) 7 β (M 8 n)
theorem tabC_pop {M : sm_M} {L : List Ty} {t : Ty} {β : Nat} (hT : tabC M (L ++ [t])) (hβ : tbk M L.length = nI β) (hb : β < 128) : tabC (fgM M L.length β) L := by
  obtain ⟨hlen, hc, hnd, hrow, hnew, hold⟩ := hT
  have hlen2 : L.length + 1 ≤ 800 := by simpa using hlen
  have e2 : fgM M L.length β 2 = M 2 := by unfold fgM; rw [up_ne (by decide), up_ne (by decide)]
  have e3 : fgM M L.length β 3 = M 3 := by unfold fgM; rw [up_ne (by decide), up_ne (by decide)]
  have e4 : fgM M L.length β 4 = M 4 := by unfold fgM; rw [up_ne (by decide), up_ne (by decide)]
  have e5 : fgM M L.length β 5 = M 5 := by unfold fgM; rw [up_ne (by decide), up_ne (by decide)]
  have e6 : fgM M L.length β 6 = M 6 := by unfold fgM; rw [up_ne (by decide), up_ne (by decide)]
  have e7 : fgM M L.length β 7 = upd (M 7) β (M 8 L.length) := by unfold fgM; rw [sm_up_same, up_ne (by decide)]
  have e8 : fgM M L.length β 8 = M 8 := by unfold fgM; rw [up_ne (by decide), up_ne (by decide)]
  have e1 : fgM M L.length β 1 7 = nI L.length := by unfold fgM; rw [up_ne (by decide)]; exact up_at
  have hf : tbk (fgM M L.length β) = tbk M := by funext i; unfold tbk; rw [e2, e3, e4, e5]
  refine ⟨by omega, e1, (List.nodup_append.mp hnd).1, ?_, ?_, ?_⟩
  · intro i u hu
    have hi := (List.getElem?_eq_some_iff.mp hu).1
    obtain ⟨h1, h2⟩ := hrow i u (by rw [List.getElem?_append_left hi]; exact hu)
    rw [e2, e3, e4, e5, e6]
    refine ⟨?_, h2⟩
    unfold tsay at h1 ⊢
    rw [List.take_append_of_le_length (by omega)] at h1
    exact h1
  · intro b' hb'
    rw [e7, hf]
    by_cases e : b' = β
    · subst e
      rw [upd_at, ← hβ]
      exact hold L.length (by simp)
    · rw [upd_ne e]
      have hne : nI β ≠ nI b' := fun q => e (nI_inj (by omega) (by omega) q).symm
      rcases hnew b' hb' with ⟨h1, h2⟩ | ⟨i, h1, h2, h3, h4⟩
      · exact Or.inl ⟨h1, fun i hi => h2 i (by simp; omega)⟩
      · have hil : i ≠ L.length := fun q => by subst q; exact hne (hβ.symm.trans h3)
        have hi2 : i < L.length := by simp at h1; omega
        exact Or.inr ⟨i, hi2, h2, h3, fun j h5 h6 => h4 j h5 (by simp; omega)⟩
  · intro i hi
    rw [e8, hf]
    exact hold i (by simp; omega)
theorem j_forget_step {M : sm_M} {D : sm_D} {L : List Ty} {t : Ty} {mark : Nat} (hT : tabC M (L ++ [t])) (hm : mark ≤ L.length) : ∃ β, β < 128 ∧ tbk M L.length = nI β ∧ jT_forgetFrom_0_b D (nI mark, M) = some (.inl (nI mark, fgM M L.length β)) := by
  obtain ⟨β, hβ, hb⟩ := bk4_lt (M 2 L.length) (M 3 L.length) (M 4 L.length) (M 5 L.length)
  refine ⟨β, hβ, hb, ?_⟩
  have hc : M 1 7 = nI (L.length + 1) := by rw [hT.2.1]; simp
  have hlen : L.length + 1 ≤ 800 := by simpa using hT.1
  have hcl : (nI L.length).toNatClampNeg = L.length := nI_clamp (by omega)
  have hclb : (nI β).toNatClampNeg = β := nI_clamp (by omega)
  have hck : ∀ {ρ : Type} {q : Option ρ}, sm_ck (nI L.length) 800 q = q := ck_nI (by omega) (by decide)
  have hckb : ∀ {ρ : Type} {q : Option ρ}, sm_ck (nI β) 128 q = q := ck_nI hβ (by decide)
  have r1 : sm_up M 1 7 (nI L.length) 1 7 = nI L.length := up_at
  have r2 : sm_up M 1 7 (nI L.length) 2 = M 2 := up_ne (by decide)
  have r3 : sm_up M 1 7 (nI L.length) 3 = M 3 := up_ne (by decide)
  have r4 : sm_up M 1 7 (nI L.length) 4 = M 4 := up_ne (by decide)
  have r5 : sm_up M 1 7 (nI L.length) 5 = M 5 := up_ne (by decide)
  have r8 : sm_up M 1 7 (nI L.length) 8 = M 8 := up_ne (by decide)
  show jT_forgetFrom_0_c (nI mark) D M = _
  unfold jT_forgetFrom_0_c
  rw [hc, if_pos (nI_lt (by omega) (by omega)), nI_pred]
  show sm_ck (sm_up M 1 7 (nI L.length) 1 7) 800 _ = _
  rw [r1, hck, hck, hck, hck, hcl, r2, r3, r4, r5, j_bucket, bi_some, dq_self, r1, hck, hb, hckb, hclb, hcl, r8]
  show sm_dq D D _ = _
  rw [dq_self]
  rfl
theorem j_forget {D : sm_D} {L : List Ty} : ∀ (n : Nat) (K : List Ty) (M : sm_M), K.length = n → tabC M (L ++ K) → ∃ M', jT_forgetFrom (nI L.length) D M = some (0, D, M') ∧ tabC M' L ∧ ∀ q, 8 < q → M' q = M q := by
  intro n
  induction n with
  | zero =>
    intro K M hK hT
    have : K = [] := List.eq_nil_of_length_eq_zero hK
    subst this
    rw [List.append_nil] at hT
    have hlen := hT.1
    refine ⟨M, ?_, hT, fun _ _ => rfl⟩
    show sm_lp (jT_forgetFrom_0_b D) (nI L.length, M) = _
    refine sm_lp_end ?_
    show jT_forgetFrom_0_c (nI L.length) D M = _
    unfold jT_forgetFrom_0_c
    rw [hT.2.1, if_neg (nI_nlt (Nat.le_refl _) (by omega))]
  | succ n ih =>
    intro K M hK hT
    have hne : K ≠ [] := by intro e; subst e; cases hK
    have hd := List.dropLast_concat_getLast hne
    have hT2 : tabC M ((L ++ K.dropLast) ++ [K.getLast hne]) := by rw [List.append_assoc, hd]; exact hT
    obtain ⟨β, hβ, hb, hs⟩ := j_forget_step (D := D) (mark := L.length) hT2 (by simp)
    obtain ⟨M', h1, h2, h3⟩ := ih K.dropLast (fgM M (L ++ K.dropLast).length β) (by simp; omega) (tabC_pop hT2 hb hβ)
    refine ⟨M', ?_, h2, fun q hq => ?_⟩
    · show sm_lp (jT_forgetFrom_0_b D) (nI L.length, M) = _
      rw [sm_lp_eq hs]
      exact h1
    · rw [h3 q hq]
      unfold fgM
      rw [up_ne (by omega), up_ne (by omega)]
