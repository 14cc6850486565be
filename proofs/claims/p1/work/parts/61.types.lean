/-! the class's table of types -/
def bk4 (k a b c : Int32) : Int32 := ((((((((k * (31 : Int32)) + a) * (37 : Int32)) + b) * (41 : Int32)) + c) ^^^ ((Int32.toUInt32 ((((((k * (31 : Int32)) + a) * (37 : Int32)) + b) * (41 : Int32)) + c) >>> (Int32.toUInt32 (7 : Int32) &&& Int32.toUInt32 31)).toInt32)) &&& (127 : Int32))
theorem bk4_lt (k a b c : Int32) : ∃ j : Nat, j < 128 ∧ bk4 k a b c = nI j := by
  obtain ⟨j, h1, h2⟩ := pk_andE (((((((k * (31 : Int32)) + a) * (37 : Int32)) + b) * (41 : Int32)) + c) ^^^ ((Int32.toUInt32 ((((((k * (31 : Int32)) + a) * (37 : Int32)) + b) * (41 : Int32)) + c) >>> (Int32.toUInt32 (7 : Int32) &&& Int32.toUInt32 31)).toInt32)) (m := 127) 7 (by decide)
  exact ⟨j, h1, h2⟩
theorem j_bucket (k a b c : Int32) (D : sm_D) (M : sm_M) : jT_bucket k a b c D M = some (bk4 k a b c, D, M) := rfl
/-- the row at i -/
def trow (M : sm_M) (i : Nat) (k a b c : Int32) : Prop := M 2 i = k ∧ M 3 i = a ∧ M 4 i = b ∧ M 5 i = c
def tbk (M : sm_M) (i : Nat) : Int32 := bk4 (M 2 i) (M 3 i) (M 4 i) (M 5 i)
/-- x names the last i below n that f has in b (-1: there is none) -/
def tch (f : Nat → Int32) (n : Nat) (x b : Int32) : Prop := (x = -1 ∧ ∀ i, i < n → f i ≠ b) ∨ ∃ i, i < n ∧ x = nI i ∧ f i = b ∧ ∀ j, i < j → j < n → f j ≠ b
/-- what a row says of its type: by its parts, which stand ahead; a hidden one names itself -/
def tsay (L : List Ty) (i : Nat) (t : Ty) (k a b c : Int32) : Prop :=
  (∃ (n : Nat) (o1 o2 o3 : Option Ty), n < 5 ∧ t = ty_mk n o1 o2 o3 ∧ k = nI n ∧ ty_pr (L.take i) a o1 ∧ ty_pr (L.take i) b o2 ∧ ty_pr (L.take i) c o3) ∨ (∃ n, t = ty_hid n ∧ k = 5 ∧ a = nI i ∧ b = -1 ∧ c = -1)
def tabC (M : sm_M) (L : List Ty) : Prop := L.length ≤ 800 ∧ M 1 7 = nI L.length ∧ L.Nodup ∧ (∀ (i : Nat) (t : Ty), L[i]? = some t → tsay L i t (M 2 i) (M 3 i) (M 4 i) (M 5 i) ∧ M 6 i = nI (ty_sz t)) ∧
  (∀ b, b < 128 → tch (tbk M) L.length (M 7 b) (nI b)) ∧ ∀ i, i < L.length → tch (tbk M) i (M 8 i) (tbk M i)
theorem tsay_hid_lt {L : List Ty} {i : Nat} {t : Ty} {k a b c : Int32} (h : tsay L i t k a b c) : True := trivial
/-- the loop of search -/
theorem j_search_loop (D : sm_D) (M : sm_M) (len : Nat) (hlen : len ≤ 800) (hc : M 1 7 = nI len) (hold : ∀ i, i < len → tch (tbk M) i (M 8 i) (tbk M i)) (k a b c : Int32) :
    ∀ (m : Nat) (x : Int32) (n : Nat), tch (tbk M) m x (bk4 k a b c) → m ≤ len → m + n ≤ len → (∀ j, m ≤ j → j < len → ¬ trow M j k a b c) →
    (∃ r, r < len ∧ trow M r k a b c ∧ jT_search_11 k a b c x (nI n) D M = some (nI r, D, M)) ∨ ((∀ j, j < len → ¬ trow M j k a b c) ∧ jT_search_11 k a b c x (nI n) D M = some (-1, D, M)) := by
  intro m
  induction m using Nat.strongRecOn with
  | _ m ih =>
    intro x n hx hm hn hno
    rcases hx with ⟨rfl, hx⟩ | ⟨i, hi, rfl, hb, hx⟩
    · refine Or.inr ⟨fun j hj hr => ?_, ?_⟩
      · by_cases hjm : j < m
        · obtain ⟨h1, h2, h3, h4⟩ := hr
          exact hx j hjm (by unfold tbk; rw [h1, h2, h3, h4])
        · exact hno j (by omega) hj hr
      · refine sm_lp_end ?_
        show jT_search_11_c k a b c (-1) (nI n) D M = _
        unfold jT_search_11_c
        by_cases h : nI n < M 1 7
        · rw [if_pos h, if_pos rfl]
          rfl
        · rw [if_neg h]
          rfl
    · have hcl : (nI i).toNatClampNeg = i := nI_clamp (by omega)
      have hlt : nI n < M 1 7 := by rw [hc]; exact nI_lt (by omega) (by omega)
      have hne : ¬ nI i = -1 := nI_m1 (by omega)
      have hck : ∀ {ρ : Type} {q : Option ρ}, sm_ck (nI i) 800 q = q := ck_nI (by omega) (by decide)
      by_cases hr : trow M i k a b c
      · refine Or.inl ⟨i, by omega, hr, sm_lp_end ?_⟩
        show jT_search_11_c k a b c (nI i) (nI n) D M = _
        unfold jT_search_11_c
        obtain ⟨h1, h2, h3, h4⟩ := hr
        rw [if_pos hlt, if_neg hne, hck, hcl, if_pos h1, hck, if_pos h2, hck, if_pos h3, hck, if_pos h4]
      · have hstep : jT_search_11_b D (k, a, b, c, nI i, nI n, M) = some (.inl (k, a, b, c, M 8 i, nI (n + 1), M)) := by
          show jT_search_11_c k a b c (nI i) (nI n) D M = _
          have h75 : sm_dq D D (jT_search_75 k a b c (nI i) (nI n) D M) = some (.inl (k, a, b, c, M 8 i, nI (n + 1), M)) := by
            unfold jT_search_75
            rw [dq_self, hck, dq_self, hcl, nI_succ]
          unfold jT_search_11_c
          rw [if_pos hlt, if_neg hne, hck, hcl]
          by_cases h1 : M 2 i = k
          · rw [if_pos h1, hck]
            by_cases h2 : M 3 i = a
            · rw [if_pos h2, hck]
              by_cases h3 : M 4 i = b
              · rw [if_pos h3, hck, if_neg (fun h4 => hr ⟨h1, h2, h3, h4⟩)]
                exact h75
              · rw [if_neg h3]
                exact h75
            · rw [if_neg h2]
              exact h75
          · rw [if_neg h1]
            exact h75
        have hno' : ∀ j, i ≤ j → j < len → ¬ trow M j k a b c := by
          intro j hij hj hq
          by_cases hji : j = i
          · subst hji; exact hr hq
          · by_cases hjm : j < m
            · obtain ⟨h1, h2, h3, h4⟩ := hq
              exact hx j (by omega) hjm (by unfold tbk; rw [h1, h2, h3, h4])
            · exact hno j (by omega) hj hq
        have hch : tch (tbk M) i (M 8 i) (bk4 k a b c) := by rw [← hb]; exact hold i (by omega)
        have hih := ih i hi (M 8 i) (n + 1) hch (by omega) (by omega) hno'
        have he : jT_search_11 k a b c (nI i) (nI n) D M = jT_search_11 k a b c (M 8 i) (nI (n + 1)) D M := sm_lp_eq hstep
        rw [he]
        exact hih
theorem j_search {D : sm_D} {M : sm_M} {L : List Ty} (hT : tabC M L) (k a b c : Int32) :
    (∃ r, r < L.length ∧ trow M r k a b c ∧ jT_search (bk4 k a b c) k a b c D M = some (nI r, D, M)) ∨ ((∀ j, j < L.length → ¬ trow M j k a b c) ∧ jT_search (bk4 k a b c) k a b c D M = some (-1, D, M)) := by
  obtain ⟨hlen, hc, hn, hrow, hnew, hold⟩ := hT
  obtain ⟨j, hj, he⟩ := bk4_lt k a b c
  have e : jT_search (bk4 k a b c) k a b c D M = jT_search_11 k a b c (M 7 j) (nI 0) D M := by
    unfold jT_search
    rw [he, ck_nI hj (by decide), nI_clamp (by omega)]
    rfl
  rw [e]
  exact j_search_loop D M L.length hlen hc hold k a b c L.length (M 7 j) 0 (by rw [he]; exact hnew j hj) (Nat.le_refl _) (by omega) (fun j h1 h2 => by omega)
/-- a row names a type -/
theorem trow_has {M : sm_M} {L : List Ty} (hT : tabC M L) {n : Nat} (hn5 : n < 5) {a b c : Int32} {o1 o2 o3 : Option Ty} (h1 : ty_pr L a o1) (h2 : ty_pr L b o2) (h3 : ty_pr L c o3) {r : Nat} (hr : r < L.length) (h : trow M r (nI n) a b c) : L[r]? = some (ty_mk n o1 o2 o3) := by
  obtain ⟨hlen, hc, hnd, hrow, -, -⟩ := hT
  have hg : L[r]? = some L[r] := List.getElem?_eq_getElem hr
  obtain ⟨hs, -⟩ := hrow r _ hg
  obtain ⟨e1, e2, e3, e4⟩ := h
  rw [e1, e2, e3, e4] at hs
  have hg' : ∀ {x : Int32} {o : Option Ty}, ty_pr (L.take r) x o → ty_pr L x o := by
    intro x o h
    have := h.grow (K := L.drop r)
    rwa [List.take_append_drop] at this
  rcases hs with ⟨n', p1, p2, p3, hn', ht, hk, q1, q2, q3⟩ | ⟨n', ht, hk, -, -, -⟩
  · have en : n = n' := nI_inj (by omega) (by omega) hk
    subst en
    rw [hg, ht, ty_pr.fn (by omega) (hg' q1) h1, ty_pr.fn (by omega) (hg' q2) h2, ty_pr.fn (by omega) (hg' q3) h3]
  · exfalso
    have : nI n = nI 5 := hk
    have := nI_inj (by omega) (by omega) this
    omega
theorem trow_of {M : sm_M} {L : List Ty} (hT : tabC M L) {n : Nat} {a b c : Int32} {o1 o2 o3 : Option Ty} (h1 : ty_pr L a o1) (h2 : ty_pr L b o2) (h3 : ty_pr L c o3) {r : Nat} (h : L[r]? = some (ty_mk n o1 o2 o3)) : trow M r (nI n) a b c := by
  obtain ⟨hlen, hc, hnd, hrow, -, -⟩ := hT
  obtain ⟨hs, -⟩ := hrow r _ h
  have hg' : ∀ {x : Int32} {o : Option Ty}, ty_pr (L.take r) x o → ty_pr L x o := by
    intro x o h
    have := h.grow (K := L.drop r)
    rwa [List.take_append_drop] at this
  rcases hs with ⟨n', p1, p2, p3, hn', ht, hk, q1, q2, q3⟩ | ⟨n', ht, -⟩
  · obtain ⟨en, e1, e2, e3⟩ := ty_mk_inj ht
    subst en; subst e1; subst e2; subst e3
    exact ⟨hk, ty_pr.inj hnd (hg' q1) h1, ty_pr.inj hnd (hg' q2) h2, ty_pr.inj hnd (hg' q3) h3⟩
  · exact absurd ht ty_mk_hid
theorem j_sizeOf {D : sm_D} {M : sm_M} {L : List Ty} (hT : tabC M L) {x : Int32} {o : Option Ty} (h : ty_pr L x o) : jT_sizeOf x D M = some (nI (ty_so o), D, M) := by
  obtain ⟨hlen, hc, hnd, hrow, -, -⟩ := hT
  rcases h with ⟨rfl, rfl⟩ | ⟨i, t, rfl, h2, rfl⟩
  · unfold jT_sizeOf
    rw [if_pos m1_lt]
    rfl
  · have hi := (List.getElem?_eq_some_iff.mp h2).1
    unfold jT_sizeOf
    rw [if_neg (nI_pos (by omega)), hc, if_pos (nI_lt hi (by omega)), ck_nI (by omega) (by decide), nI_clamp (by omega), (hrow i t h2).2]
    rfl
