/-! the reference's table of types -/
def tsayM (L : List Ty) (i : Nat) (t : Ty) (k a b c : Int32) : Prop :=
  (∃ (n : Nat) (o1 o2 o3 : Option Ty), n < 5 ∧ t = ty_mk n o1 o2 o3 ∧ k = nI n ∧ ty_pr (L.take i) a o1 ∧ ty_pr (L.take i) b o2 ∧ ty_pr (L.take i) c o3) ∨ (∃ n, t = ty_hid n ∧ k = 5 ∧ a = -1 ∧ b = -1 ∧ c = -1)
def tabM (M : sm_M) (L : List Ty) : Prop := L.length ≤ 3000 ∧ M 1 1 = nI L.length ∧ L.Nodup ∧ ∀ (i : Nat) (t : Ty), L[i]? = some t → tsayM L i t (M 2 i) (M 3 i) (M 4 i) (M 5 i) ∧ M 6 i = nI (ty_sz t)
theorem r_find_loop {D : sm_D} {M : sm_M} {len : Nat} (hlen : len ≤ 3000) (hc : M 1 1 = nI len) {k a b c : Int32} (hk : ¬ k = 5) : ∀ (d i : Nat), i + d = len →
    (∃ r, i ≤ r ∧ r < len ∧ trow M r k a b c ∧ jR_find_3 k a b c (nI i) D M = some (nI r, D, M)) ∨ ((∀ j, i ≤ j → j < len → ¬ trow M j k a b c) ∧ jR_find_3 k a b c (nI i) D M = jR_find_71 k a b c D M) := by
  intro d
  induction d with
  | zero =>
    intro i hi
    refine Or.inr ⟨fun j h1 h2 => by omega, ?_⟩
    cases h71 : jR_find_71 k a b c D M with
    | some r =>
      refine sm_lp_end ?_
      show jR_find_3_c k a b c (nI i) D M = _
      unfold jR_find_3_c
      rw [hc, if_neg (nI_nlt (by omega) (by omega)), h71]
      rfl
    | none =>
      cases hl : jR_find_3 k a b c (nI i) D M with
      | none => rfl
      | some r =>
        exfalso
        obtain ⟨n, hn⟩ := sm_lp_it hl
        cases n with
        | zero => cases hn
        | succ n =>
          unfold sm_it at hn
          have hb : jR_find_3_b D (k, a, b, c, nI i, M) = none := by
            show jR_find_3_c k a b c (nI i) D M = _
            unfold jR_find_3_c
            rw [hc, if_neg (nI_nlt (by omega) (by omega)), h71]
            rfl
          rw [hb] at hn
          cases hn
  | succ d ih =>
    intro i hi
    have hcl : (nI i).toNatClampNeg = i := nI_clamp (by omega)
    have hlt : nI i < M 1 1 := by rw [hc]; exact nI_lt (by omega) (by omega)
    have hck : ∀ {ρ : Type} {q : Option ρ}, sm_ck (nI i) 3000 q = q := ck_nI (by omega) (by decide)
    by_cases hr : trow M i k a b c
    · refine Or.inl ⟨i, Nat.le_refl _, by omega, hr, sm_lp_end ?_⟩
      show jR_find_3_c k a b c (nI i) D M = _
      unfold jR_find_3_c
      obtain ⟨h1, h2, h3, h4⟩ := hr
      rw [if_pos hlt, if_neg hk, hck, hcl, if_pos h1, hck, if_pos h2, hck, if_pos h3, hck, if_pos h4]
    · have hstep : jR_find_3_b D (k, a, b, c, nI i, M) = some (.inl (k, a, b, c, nI (i + 1), M)) := by
        show jR_find_3_c k a b c (nI i) D M = _
        have h65 : sm_dq D D (jR_find_65 k a b c (nI i) D M) = some (.inl (k, a, b, c, nI (i + 1), M)) := by
          unfold jR_find_65
          rw [dq_self, dq_self, nI_succ]
        unfold jR_find_3_c
        rw [if_pos hlt, if_neg hk, hck, hcl]
        by_cases h1 : M 2 i = k
        · rw [if_pos h1, hck]
          by_cases h2 : M 3 i = a
          · rw [if_pos h2, hck]
            by_cases h3 : M 4 i = b
            · rw [if_pos h3, hck, if_neg (fun h4 => hr ⟨h1, h2, h3, h4⟩)]
              exact h65
            · rw [if_neg h3]
              exact h65
          · rw [if_neg h2]
            exact h65
        · rw [if_neg h1]
          exact h65
      have he : jR_find_3 k a b c (nI i) D M = jR_find_3 k a b c (nI (i + 1)) D M := sm_lp_eq hstep
      rw [he]
      rcases ih (i + 1) (by omega) with ⟨r, h1, h2, h3, h4⟩ | ⟨h1, h2⟩
      · exact Or.inl ⟨r, by omega, h2, h3, h4⟩
      · refine Or.inr ⟨fun j h3 h4 h5 => ?_, h2⟩
        by_cases hji : j = i
        · subst hji; exact hr h5
        · exact h1 j (by omega) h4 h5
def apR (M : sm_M) (n : Nat) (k a b c z : Int32) : sm_M := sm_up (sm_up (sm_up (sm_up (sm_up (sm_up M 2 n k) 3 n a) 4 n b) 5 n c) 6 n z) 1 1 (nI (n + 1))
theorem apR_2 {M : sm_M} {n : Nat} {k a b c z : Int32} : apR M n k a b c z 2 = upd (M 2) n k := by
  unfold apR
  rw [up_ne (by decide), up_ne (by decide), up_ne (by decide), up_ne (by decide), up_ne (by decide), sm_up_same]
theorem apR_3 {M : sm_M} {n : Nat} {k a b c z : Int32} : apR M n k a b c z 3 = upd (M 3) n a := by
  unfold apR
  rw [up_ne (by decide), up_ne (by decide), up_ne (by decide), up_ne (by decide), sm_up_same, up_ne (by decide)]
theorem apR_4 {M : sm_M} {n : Nat} {k a b c z : Int32} : apR M n k a b c z 4 = upd (M 4) n b := by
  unfold apR
  rw [up_ne (by decide), up_ne (by decide), up_ne (by decide), sm_up_same, up_ne (by decide), up_ne (by decide)]
theorem apR_5 {M : sm_M} {n : Nat} {k a b c z : Int32} : apR M n k a b c z 5 = upd (M 5) n c := by
  unfold apR
  rw [up_ne (by decide), up_ne (by decide), sm_up_same, up_ne (by decide), up_ne (by decide), up_ne (by decide)]
theorem apR_6 {M : sm_M} {n : Nat} {k a b c z : Int32} : apR M n k a b c z 6 = upd (M 6) n z := by
  unfold apR
  rw [up_ne (by decide), sm_up_same, up_ne (by decide), up_ne (by decide), up_ne (by decide), up_ne (by decide)]
theorem apR_1 {M : sm_M} {n : Nat} {k a b c z : Int32} : apR M n k a b c z 1 1 = nI (n + 1) := up_at
theorem apR_1o {M : sm_M} {n j : Nat} {k a b c z : Int32} (h : j ≠ 1) : apR M n k a b c z 1 j = M 1 j := by
  unfold apR
  rw [up_as h, up_ne (by decide), up_ne (by decide), up_ne (by decide), up_ne (by decide), up_ne (by decide)]
theorem apR_o {M : sm_M} {n q : Nat} {k a b c z : Int32} (h : 6 < q) : apR M n k a b c z q = M q := by
  unfold apR
  rw [up_ne (by omega), up_ne (by omega), up_ne (by omega), up_ne (by omega), up_ne (by omega), up_ne (by omega)]
theorem tabM_push {M : sm_M} {L : List Ty} {t : Ty} {k a b c : Int32} (hT : tabM M L) (hl : L.length < 3000) (ht : t ∉ L) (hs : tsayM (L ++ [t]) L.length t k a b c) : tabM (apR M L.length k a b c (nI (ty_sz t))) (L ++ [t]) := by
  obtain ⟨hlen, hc, hnd, hrow⟩ := hT
  refine ⟨by simp; omega, by rw [apR_1]; simp, ?_, ?_⟩
  · rw [List.nodup_append]
    refine ⟨hnd, by simp, fun x hx y hy => ?_⟩
    simp at hy
    subst hy
    exact fun e => ht (e ▸ hx)
  · intro i u hu
    by_cases hi : i < L.length
    · rw [List.getElem?_append_left hi] at hu
      obtain ⟨h1, h2⟩ := hrow i u hu
      rw [apR_2, apR_3, apR_4, apR_5, apR_6, upd_ne (by omega), upd_ne (by omega), upd_ne (by omega), upd_ne (by omega), upd_ne (by omega)]
      refine ⟨?_, h2⟩
      unfold tsayM at h1 ⊢
      rw [List.take_append_of_le_length (by omega)]
      exact h1
    · have hi2 : i < (L ++ [t]).length := (List.getElem?_eq_some_iff.mp hu).1
      have hi3 : i = L.length := by simp at hi2; omega
      subst hi3
      have e : u = t := by simpa using hu.symm
      subst e
      rw [apR_2, apR_3, apR_4, apR_5, apR_6, upd_at, upd_at, upd_at, upd_at, upd_at]
      exact ⟨hs, rfl⟩
/-- the reference forgets by its count alone -/
theorem tabM_cut {M : sm_M} {L K : List Ty} (hT : tabM M (L ++ K)) : tabM (sm_up M 1 1 (nI L.length)) L := by
  obtain ⟨hlen, hc, hnd, hrow⟩ := hT
  refine ⟨by simp at hlen; omega, up_at, (List.nodup_append.mp hnd).1, fun i u hu => ?_⟩
  have hi := (List.getElem?_eq_some_iff.mp hu).1
  obtain ⟨h1, h2⟩ := hrow i u (by rw [List.getElem?_append_left hi]; exact hu)
  rw [up_ne (by decide), up_ne (by decide), up_ne (by decide), up_ne (by decide), up_ne (by decide)]
  refine ⟨?_, h2⟩
  unfold tsayM at h1 ⊢
  rw [List.take_append_of_le_length (by omega)] at h1
  exact h1
theorem r_sizeOf {D : sm_D} {M : sm_M} {L : List Ty} (hT : tabM M L) {N : sm_M} (hN : N 6 = M 6) {x : Int32} {o : Option Ty} (h : ty_pr L x o) : jR_sizeOf x D N = some (nI (ty_so o), D, N) := by
  obtain ⟨hlen, hc, hnd, hrow⟩ := hT
  rcases h with ⟨rfl, rfl⟩ | ⟨i, t, rfl, h2, rfl⟩
  · unfold jR_sizeOf
    rw [if_pos m1_lt]
    rfl
  · have hi := (List.getElem?_eq_some_iff.mp h2).1
    unfold jR_sizeOf
    rw [if_neg (nI_pos (by omega)), ck_nI (by omega) (by decide), nI_clamp (by omega), hN, (hrow i t h2).2]
    rfl
theorem r_find_71 {D : sm_D} {M : sm_M} {L : List Ty} {k a b c : Int32} {o1 o2 o3 : Option Ty} {t : Ty} (hT : tabM M L) (hl : L.length < 3000) (h1 : ty_pr L a o1) (h2 : ty_pr L b o2) (h3 : ty_pr L c o3) (hsz : ty_sz t = 1 + ty_so o1 + ty_so o2 + ty_so o3) : jR_find_71 k a b c D M = some (nI L.length, D, apR M L.length k a b c (nI (ty_sz t))) := by
  have hc := hT.2.1
  have hcl : (nI L.length).toNatClampNeg = L.length := nI_clamp (by omega)
  have hck : ∀ {ρ : Type} {q : Option ρ}, sm_ck (nI L.length) 3000 q = q := ck_nI hl (by decide)
  have e6 : sm_up (sm_up (sm_up (sm_up M 2 L.length k) 3 L.length a) 4 L.length b) 5 L.length c 6 = M 6 := by rw [up_ne (by decide), up_ne (by decide), up_ne (by decide), up_ne (by decide)]
  have e : (1 : Int32) + nI (ty_so o1) + nI (ty_so o2) + nI (ty_so o3) = nI (ty_sz t) := by
    rw [hsz, ← nI_add, ← nI_add, ← nI_add]
    rfl
  unfold jR_find_71 sm_wr
  simp only [u1_2, u1_3, u1_4, u1_5, u1_6, hc, hcl, hck]
  rw [r_sizeOf hT e6 h1, bi_some, dq_self, r_sizeOf hT e6 h2, bi_some, dq_self, r_sizeOf hT e6 h3, bi_some, dq_self]
  simp only [u1_2, u1_3, u1_4, u1_5, u1_6, hc, e, up_at, ← nI_succ, nI_pred]
  rfl
theorem trowM_has {M : sm_M} {L : List Ty} (hT : tabM M L) {n : Nat} (hn5 : n < 5) {a b c : Int32} {o1 o2 o3 : Option Ty} (h1 : ty_pr L a o1) (h2 : ty_pr L b o2) (h3 : ty_pr L c o3) {r : Nat} (hr : r < L.length) (h : trow M r (nI n) a b c) : L[r]? = some (ty_mk n o1 o2 o3) := by
  obtain ⟨hlen, hc, hnd, hrow⟩ := hT
  have hg : L[r]? = some L[r] := List.getElem?_eq_getElem hr
  obtain ⟨hs, -⟩ := hrow r _ hg
  obtain ⟨e1, e2, e3, e4⟩ := h
  rw [e1, e2, e3, e4] at hs
  have hg' : ∀ {x : Int32} {o : Option Ty}, ty_pr (L.take r) x o → ty_pr L x o := by
    intro x o h
    have := h.grow (K := L.drop r)
    rwa [List.take_append_drop] at this
  rcases hs with ⟨n', p1, p2, p3, hn', ht, hk, q1, q2, q3⟩ | ⟨n', ht, hk, -, -, -⟩
  · have en : n = n' := nI_inj (by omega) (by omega) hk
    subst en
    rw [hg, ht, ty_pr.fn (by omega) (hg' q1) h1, ty_pr.fn (by omega) (hg' q2) h2, ty_pr.fn (by omega) (hg' q3) h3]
  · exfalso
    have : nI n = nI 5 := hk
    have := nI_inj (by omega) (by omega) this
    omega
theorem tabM.row {M : sm_M} {L : List Ty} (hT : tabM M L) {i n : Nat} {o1 o2 o3 : Option Ty} (h : L[i]? = some (ty_mk n o1 o2 o3)) : n < 5 ∧ M 2 i = nI n ∧ ty_pr L (M 3 i) o1 ∧ ty_pr L (M 4 i) o2 ∧ ty_pr L (M 5 i) o3 := by
  obtain ⟨hs, -⟩ := hT.2.2.2 i _ h
  have hg' : ∀ {x : Int32} {o : Option Ty}, ty_pr (L.take i) x o → ty_pr L x o := by
    intro x o h
    have := h.grow (K := L.drop i)
    rwa [List.take_append_drop] at this
  rcases hs with ⟨n', p1, p2, p3, hn', ht, hk, q1, q2, q3⟩ | ⟨n', ht, -⟩
  · obtain ⟨en, e1, e2, e3⟩ := ty_mk_inj ht
    subst en; subst e1; subst e2; subst e3
    exact ⟨hn', hk, hg' q1, hg' q2, hg' q3⟩
  · exact absurd ht ty_mk_hid
theorem r_find {M : sm_M} {D : sm_D} {L : List Ty} {n : Nat} {a b c : Int32} {o1 o2 o3 : Option Ty} (hT : tabM M L) (hn : n < 5) (h1 : ty_pr L a o1) (h2 : ty_pr L b o2) (h3 : ty_pr L c o3) (hl : L.length < 3000) :
    (∃ r, L[r]? = some (ty_mk n o1 o2 o3) ∧ jR_find (nI n) a b c D M = some (nI r, D, M)) ∨
    (ty_mk n o1 o2 o3 ∉ L ∧ ∃ M', jR_find (nI n) a b c D M = some (nI L.length, D, M') ∧ tabM M' (L ++ [ty_mk n o1 o2 o3]) ∧ (∀ j, j ≠ 1 → M' 1 j = M 1 j) ∧ ∀ q, 6 < q → M' q = M q) := by
  have hk : ¬ nI n = 5 := fun e => by
    have : nI n = nI 5 := e
    have := nI_inj (by omega) (by omega) this
    omega
  have e : jR_find (nI n) a b c D M = jR_find_3 (nI n) a b c (nI 0) D M := rfl
  rw [e]
  rcases r_find_loop (D := D) (by omega) hT.2.1 (a := a) (b := b) (c := c) hk L.length 0 (by omega) with ⟨r, -, hr, hrow, hj⟩ | ⟨hno, hj⟩
  · exact Or.inl ⟨r, trowM_has hT hn h1 h2 h3 hr hrow, hj⟩
  · have ht : ty_mk n o1 o2 o3 ∉ L := by
      intro hin
      obtain ⟨r, hr⟩ := List.getElem?_of_mem hin
      obtain ⟨-, e1, e2, e3, e4⟩ := hT.row hr
      exact hno r (by omega) (List.getElem?_eq_some_iff.mp hr).1 ⟨e1, ty_pr.inj hT.2.2.1 e2 h1, ty_pr.inj hT.2.2.1 e3 h2, ty_pr.inj hT.2.2.1 e4 h3⟩
    refine Or.inr ⟨ht, _, hj.trans (r_find_71 (t := ty_mk n o1 o2 o3) hT hl h1 h2 h3 (ty_sz_mk n o1 o2 o3)), tabM_push hT hl ht (Or.inl ⟨n, o1, o2, o3, hn, rfl, rfl, ?_, ?_, ?_⟩), fun j hj => apR_1o hj, fun q hq => apR_o hq⟩
    · rw [List.take_append_of_le_length (Nat.le_refl _), List.take_length]; exact h1
    · rw [List.take_append_of_le_length (Nat.le_refl _), List.take_length]; exact h2
    · rw [List.take_append_of_le_length (Nat.le_refl _), List.take_length]; exact h3
