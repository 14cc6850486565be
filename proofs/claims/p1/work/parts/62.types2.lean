/-! the table grows -/
theorem u1_2 {M : sm_M} {j : Nat} {v : Int32} : sm_up M 2 j v 1 = M 1 := up_ne (by decide)
theorem u1_3 {M : sm_M} {j : Nat} {v : Int32} : sm_up M 3 j v 1 = M 1 := up_ne (by decide)
theorem u1_4 {M : sm_M} {j : Nat} {v : Int32} : sm_up M 4 j v 1 = M 1 := up_ne (by decide)
theorem u1_5 {M : sm_M} {j : Nat} {v : Int32} : sm_up M 5 j v 1 = M 1 := up_ne (by decide)
theorem u1_6 {M : sm_M} {j : Nat} {v : Int32} : sm_up M 6 j v 1 = M 1 := up_ne (by decide)
theorem u1_7 {M : sm_M} {j : Nat} {v : Int32} : sm_up M 7 j v 1 = M 1 := up_ne (by decide)
theorem u1_8 {M : sm_M} {j : Nat} {v : Int32} : sm_up M 8 j v 1 = M 1 := up_ne (by decide)
theorem u7_2 {M : sm_M} {j : Nat} {v : Int32} : sm_up M 2 j v 7 = M 7 := up_ne (by decide)
theorem u7_3 {M : sm_M} {j : Nat} {v : Int32} : sm_up M 3 j v 7 = M 7 := up_ne (by decide)
theorem u7_4 {M : sm_M} {j : Nat} {v : Int32} : sm_up M 4 j v 7 = M 7 := up_ne (by decide)
theorem u7_5 {M : sm_M} {j : Nat} {v : Int32} : sm_up M 5 j v 7 = M 7 := up_ne (by decide)
def apM (M : sm_M) (n β : Nat) (k a b c : Int32) : sm_M := sm_up (sm_up (sm_up (sm_up (sm_up (sm_up (sm_up M 2 n k) 3 n a) 4 n b) 5 n c) 8 n (M 7 β)) 7 β (nI n)) 1 7 (nI (n + 1))
theorem apM_1 {M : sm_M} {n β : Nat} {k a b c : Int32} : apM M n β k a b c 1 7 = nI (n + 1) := up_at
theorem apM_2 {M : sm_M} {n β : Nat} {k a b c : Int32} : apM M n β k a b c 2 = upd (M 2) n k := by
  unfold apM
  rw [up_ne (by decide), up_ne (by decide), up_ne (by decide), up_ne (by decide), up_ne (by decide), up_ne (by decide), sm_up_same]
theorem apM_3 {M : sm_M} {n β : Nat} {k a b c : Int32} : apM M n β k a b c 3 = upd (M 3) n a := by
  unfold apM
  rw [up_ne (by decide), up_ne (by decide), up_ne (by decide), up_ne (by decide), up_ne (by decide), sm_up_same, up_ne (by decide)]
theorem apM_4 {M : sm_M} {n β : Nat} {k a b c : Int32} : apM M n β k a b c 4 = upd (M 4) n b := by
  unfold apM
  rw [up_ne (by decide), up_ne (by decide), up_ne (by decide), up_ne (by decide), sm_up_same, up_ne (by decide), up_ne (by decide)]
theorem apM_5 {M : sm_M} {n β : Nat} {k a b c : Int32} : apM M n β k a b c 5 = upd (M 5) n c := by
  unfold apM
  rw [up_ne (by decide), up_ne (by decide), up_ne (by decide), sm_up_same, up_ne (by decide), up_ne (by decide), up_ne (by decide)]
theorem apM_6 {M : sm_M} {n β : Nat} {k a b c : Int32} : apM M n β k a b c 6 = M 6 := by
  unfold apM
  rw [up_ne (by decide), up_ne (by decide), up_ne (by decide), up_ne (by decide), up_ne (by decide), up_ne (by decide), up_ne (by decide)]
theorem apM_7 {M : sm_M} {n β : Nat} {k a b c : Int32} : apM M n β k a b c 7 = upd (M 7) β (nI n) := by
  unfold apM
  rw [up_ne (by decide), sm_up_same, up_ne (by decide), up_ne (by decide), up_ne (by decide), up_ne (by decide), up_ne (by decide)]
theorem apM_8 {M : sm_M} {n β : Nat} {k a b c : Int32} : apM M n β k a b c 8 = upd (M 8) n (M 7 β) := by
  unfold apM
  rw [up_ne (by decide), up_ne (by decide), sm_up_same, up_ne (by decide), up_ne (by decide), up_ne (by decide), up_ne (by decide)]
theorem apM_o {M : sm_M} {n β q : Nat} {k a b c : Int32} (h : 8 < q) : apM M n β k a b c q = M q := by
  unfold apM
  rw [up_ne (by omega), up_ne (by omega), up_ne (by omega), up_ne (by omega), up_ne (by omega), up_ne (by omega), up_ne (by omega)]
theorem j_append {M : sm_M} {D : sm_D} {n β : Nat} {k a b c : Int32} (hc : M 1 7 = nI n) (hn : n < 800) (hβ : β < 128) : jT_append (nI β) k a b c D M = some (0, D, apM M n β k a b c) := by
  have hcl : (nI n).toNatClampNeg = n := nI_clamp (by omega)
  have hclb : (nI β).toNatClampNeg = β := nI_clamp (by omega)
  have hck : ∀ {ρ : Type} {q : Option ρ}, sm_ck (nI n) 800 q = q := ck_nI hn (by decide)
  have hckb : ∀ {ρ : Type} {q : Option ρ}, sm_ck (nI β) 128 q = q := ck_nI hβ (by decide)
  unfold jT_append sm_wr apM
  simp only [u1_2, u1_3, u1_4, u1_5, u1_7, u1_8, u7_2, u7_3, u7_4, u7_5, hc, hcl, hclb, hck, hckb, nI_succ]
theorem upd_at {f : Nat → Int32} {n : Nat} {v : Int32} : upd f n v n = v := by unfold upd; rw [if_pos rfl]
theorem upd_ne {f : Nat → Int32} {n i : Nat} {v : Int32} (h : i ≠ n) : upd f n v i = f i := by unfold upd; rw [if_neg h]
theorem tch_up {f g : Nat → Int32} {n : Nat} {x b : Int32} (h : tch f n x b) (hg : ∀ i, i < n → g i = f i) : tch g n x b := by
  rcases h with ⟨h1, h2⟩ | ⟨i, h1, h2, h3, h4⟩
  · exact Or.inl ⟨h1, fun i hi => by rw [hg i hi]; exact h2 i hi⟩
  · exact Or.inr ⟨i, h1, h2, by rw [hg i h1]; exact h3, fun j h5 h6 => by rw [hg j h6]; exact h4 j h5 h6⟩
/-- one more type at the end -/
theorem tabC_push {M : sm_M} {L : List Ty} {t : Ty} {k a b c : Int32} {β : Nat} (hT : tabC M L) (hl : L.length < 800) (ht : t ∉ L) (hβ : bk4 k a b c = nI β) (hb : β < 128) (hs : tsay (L ++ [t]) L.length t k a b c) :
    tabC (apM (sm_up M 6 L.length (nI (ty_sz t))) L.length β k a b c) (L ++ [t]) := by
  obtain ⟨hlen, hc, hnd, hrow, hnew, hold⟩ := hT
  have s2 : sm_up M 6 L.length (nI (ty_sz t)) 2 = M 2 := up_ne (by decide)
  have s3 : sm_up M 6 L.length (nI (ty_sz t)) 3 = M 3 := up_ne (by decide)
  have s4 : sm_up M 6 L.length (nI (ty_sz t)) 4 = M 4 := up_ne (by decide)
  have s5 : sm_up M 6 L.length (nI (ty_sz t)) 5 = M 5 := up_ne (by decide)
  have s7 : sm_up M 6 L.length (nI (ty_sz t)) 7 = M 7 := up_ne (by decide)
  have s8 : sm_up M 6 L.length (nI (ty_sz t)) 8 = M 8 := up_ne (by decide)
  have s6 : sm_up M 6 L.length (nI (ty_sz t)) 6 = upd (M 6) L.length (nI (ty_sz t)) := sm_up_same
  have hf : ∀ i, i < L.length → tbk (apM (sm_up M 6 L.length (nI (ty_sz t))) L.length β k a b c) i = tbk M i := by
    intro i hi
    unfold tbk
    rw [apM_2, apM_3, apM_4, apM_5, s2, s3, s4, s5, upd_ne (by omega), upd_ne (by omega), upd_ne (by omega), upd_ne (by omega)]
  have hfl : tbk (apM (sm_up M 6 L.length (nI (ty_sz t))) L.length β k a b c) L.length = nI β := by
    unfold tbk
    rw [apM_2, apM_3, apM_4, apM_5, upd_at, upd_at, upd_at, upd_at, hβ]
  refine ⟨by simp; omega, by rw [apM_1]; simp, ?_, ?_, ?_, ?_⟩
  · rw [List.nodup_append]
    refine ⟨hnd, by simp, fun x hx y hy => ?_⟩
    simp at hy
    subst hy
    exact fun e => ht (e ▸ hx)
  · intro i u hu
    by_cases hi : i < L.length
    · rw [List.getElem?_append_left hi] at hu
      obtain ⟨h1, h2⟩ := hrow i u hu
      rw [apM_2, apM_3, apM_4, apM_5, apM_6, s2, s3, s4, s5, s6, upd_ne (by omega), upd_ne (by omega), upd_ne (by omega), upd_ne (by omega), upd_ne (by omega)]
      refine ⟨?_, h2⟩
      unfold tsay at h1 ⊢
      rw [List.take_append_of_le_length (by omega)]
      exact h1
    · have hi2 : i < (L ++ [t]).length := (List.getElem?_eq_some_iff.mp hu).1
      have hi3 : i = L.length := by simp at hi2; omega
      subst hi3
      have e : u = t := by simpa using hu.symm
      subst e
      rw [apM_2, apM_3, apM_4, apM_5, apM_6, s6, upd_at, upd_at, upd_at, upd_at, upd_at]
      exact ⟨hs, rfl⟩
  · intro b' hb'
    rw [apM_7, s7]
    by_cases e : b' = β
    · subst e
      rw [upd_at]
      exact Or.inr ⟨L.length, by simp, rfl, hfl, fun j h1 h2 => by simp at h2; omega⟩
    · rw [upd_ne e]
      have hne : nI β ≠ nI b' := fun q => e (nI_inj (by omega) (by omega) q).symm
      rcases hnew b' hb' with ⟨h1, h2⟩ | ⟨i, h1, h2, h3, h4⟩
      · refine Or.inl ⟨h1, fun i hi => ?_⟩
        by_cases hil : i < L.length
        · rw [hf i hil]; exact h2 i hil
        · have : i = L.length := by simp at hi; omega
          subst this
          rw [hfl]; exact hne
      · refine Or.inr ⟨i, by simp; omega, h2, by rw [hf i h1]; exact h3, fun j h5 h6 => ?_⟩
        by_cases hjl : j < L.length
        · rw [hf j hjl]; exact h4 j h5 hjl
        · have : j = L.length := by simp at h6; omega
          subst this
          rw [hfl]; exact hne
  · intro i hi
    rw [apM_8, s8, s7]
    by_cases hil : i < L.length
    · rw [upd_ne (by omega), hf i hil]
      exact tch_up (hold i hil) (fun j hj => hf j (by omega))
    · have : i = L.length := by simp at hi; omega
      subst this
      rw [upd_at, hfl]
      exact tch_up (hnew β hb) (fun j hj => hf j hj)
theorem j_find_new {M : sm_M} {D : sm_D} {L : List Ty} {k a b c : Int32} {o1 o2 o3 : Option Ty} {t : Ty} (hT : tabC M L) (hl : L.length < 800) (hno : ∀ j, j < L.length → ¬ trow M j k a b c) (s1 : jT_sizeOf a D M = some (nI (ty_so o1), D, M)) (s2 : jT_sizeOf b D M = some (nI (ty_so o2), D, M)) (s3 : jT_sizeOf c D M = some (nI (ty_so o3), D, M)) (hsz : ty_sz t = 1 + ty_so o1 + ty_so o2 + ty_so o3) (ht : t ∉ L) (hs : tsay (L ++ [t]) L.length t k a b c) :
    ∃ M', jT_find k a b c D M = some (nI L.length, D, M') ∧ tabC M' (L ++ [t]) ∧ ∀ q, 8 < q → M' q = M q := by
  obtain ⟨β, hβ, hb⟩ := bk4_lt k a b c
  have hc := hT.2.1
  have hse : jT_search (bk4 k a b c) k a b c D M = some (-1, D, M) := by
    rcases j_search (D := D) hT k a b c with ⟨r, h1, h2, -⟩ | ⟨-, h⟩
    · exact absurd h2 (hno r h1)
    · exact h
  refine ⟨apM (sm_up M 6 L.length (nI (ty_sz t))) L.length β k a b c, ?_, tabC_push hT hl ht hb hβ hs, fun q hq => by rw [apM_o hq, up_ne (by omega)]⟩
  have h800 : ¬ M 1 7 = 800 := by
    rw [hc]
    intro q
    have : nI L.length = nI 800 := q
    have := nI_inj (by omega) (by omega) this
    omega
  have hap := j_append (M := sm_up M 6 L.length (nI (ty_sz t))) (D := D) (n := L.length) (β := β) (k := k) (a := a) (b := b) (c := c) (by rw [u1_6]; exact hc) hl hβ
  unfold jT_find
  rw [j_bucket, bi_some, dq_self, hse, bi_some, dq_self, if_pos rfl, if_neg h800, s1, bi_some, dq_self, s2, bi_some, dq_self, s3, bi_some, dq_self, hc, ck_nI hl (by decide), nI_clamp (by omega)]
  have e : (1 : Int32) + nI (ty_so o1) + nI (ty_so o2) + nI (ty_so o3) = nI (ty_sz t) := by
    rw [hsz, ← nI_add, ← nI_add, ← nI_add]
    rfl
  show sm_bi (jT_append (bk4 k a b c) k a b c D (sm_up M 6 L.length ((1 : Int32) + nI (ty_so o1) + nI (ty_so o2) + nI (ty_so o3)))) _ = _
  rw [e, hb, hap, bi_some, dq_self, apM_1, nI_pred]
/-- find: the type is there, or comes to the end (if there is room) -/
theorem j_find {M : sm_M} {D : sm_D} {L : List Ty} {n : Nat} {a b c : Int32} {o1 o2 o3 : Option Ty} (hT : tabC M L) (hn : n < 5) (h1 : ty_pr L a o1) (h2 : ty_pr L b o2) (h3 : ty_pr L c o3) :
    (∃ r, L[r]? = some (ty_mk n o1 o2 o3) ∧ jT_find (nI n) a b c D M = some (nI r, D, M)) ∨
    (ty_mk n o1 o2 o3 ∉ L ∧ L.length < 800 ∧ ∃ M', jT_find (nI n) a b c D M = some (nI L.length, D, M') ∧ tabC M' (L ++ [ty_mk n o1 o2 o3]) ∧ ∀ q, 8 < q → M' q = M q) ∨
    (ty_mk n o1 o2 o3 ∉ L ∧ L.length = 800 ∧ jT_find (nI n) a b c D M = some (-1, D, M)) := by
  have hlen := hT.1
  have hc := hT.2.1
  rcases j_search (D := D) hT (nI n) a b c with ⟨r, hr, hrow, hse⟩ | ⟨hno, hse⟩
  · refine Or.inl ⟨r, trow_has hT hn h1 h2 h3 hr hrow, ?_⟩
    unfold jT_find
    rw [j_bucket, bi_some, dq_self, hse, bi_some, dq_self, if_neg (nI_m1 (by omega))]
    rfl
  · have ht : ty_mk n o1 o2 o3 ∉ L := by
      intro hin
      obtain ⟨r, hr⟩ := List.getElem?_of_mem hin
      exact hno r (List.getElem?_eq_some_iff.mp hr).1 (trow_of hT h1 h2 h3 hr)
    by_cases hl : L.length < 800
    · refine Or.inr (Or.inl ⟨ht, hl, ?_⟩)
      refine j_find_new (o1 := o1) (o2 := o2) (o3 := o3) hT hl hno (j_sizeOf hT h1) (j_sizeOf hT h2) (j_sizeOf hT h3) (ty_sz_mk n o1 o2 o3) ht (Or.inl ⟨n, o1, o2, o3, hn, rfl, rfl, ?_, ?_, ?_⟩)
      · rw [List.take_append_of_le_length (Nat.le_refl _), List.take_length]; exact h1
      · rw [List.take_append_of_le_length (Nat.le_refl _), List.take_length]; exact h2
      · rw [List.take_append_of_le_length (Nat.le_refl _), List.take_length]; exact h3
    · have hl : L.length = 800 := by omega
      refine Or.inr (Or.inr ⟨ht, hl, ?_⟩)
      unfold jT_find
      rw [j_bucket, bi_some, dq_self, hse, bi_some, dq_self, if_pos rfl, if_pos (by rw [hc, hl]; rfl)]
      rfl
