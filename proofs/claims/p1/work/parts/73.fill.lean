/-! Arrays.fill -/
def flM (M : sm_M) (p n : Nat) (v : Int32) : sm_M := fun q => if q = p then (fun i => if i < n then v else M p i) else M q
theorem flM_0 {M : sm_M} {p : Nat} {v : Int32} : flM M p 0 v = M := by
  funext q i
  unfold flM
  by_cases h : q = p
  · subst h; rw [if_pos rfl]; simp
  · rw [if_neg h]
theorem flM_s {M : sm_M} {p n : Nat} {v : Int32} : sm_up (flM M p n v) p n v = flM M p (n + 1) v := by
  funext q i
  unfold sm_up flM upd
  by_cases h : q = p
  · subst h
    simp only [↓reduceIte]
    by_cases hi : i = n
    · subst hi; simp
    · rw [if_neg hi]
      by_cases h2 : i < n
      · rw [if_pos h2, if_pos (by omega)]
      · rw [if_neg h2, if_neg (by omega)]
  · rw [if_neg h, if_neg h, if_neg h]
theorem flM_at {M : sm_M} {p n i : Nat} {v : Int32} (h : i < n) : flM M p n v p i = v := by unfold flM; rw [if_pos rfl, if_pos h]
theorem flM_ne {M : sm_M} {p q n : Nat} {v : Int32} (h : q ≠ p) : flM M p n v q = M q := by unfold flM; rw [if_neg h]
theorem j_fill_loop {D : sm_D} {M : sm_M} {p L : Nat} {v : Int32} (hL : L < 2 ^ 31) : ∀ (d n : Nat), n + d = L → jX_fill_5 p L v (nI n) (nI L) D (flM M p n v) = some (0, D, flM M p L v) := by
  intro d
  induction d with
  | zero =>
    intro n hn
    have : n = L := by omega
    subst this
    refine sm_lp_end ?_
    show jX_fill_5_c p n v (nI n) (nI n) D (flM M p n v) = _
    unfold jX_fill_5_c
    rw [if_neg (nI_nlt (Nat.le_refl _) hL)]
  | succ d ih =>
    intro n hn
    have hs : jX_fill_5_b p L D (v, nI n, nI L, flM M p n v) = some (.inl (v, nI (n + 1), nI L, flM M p (n + 1) v)) := by
      show jX_fill_5_c p L v (nI n) (nI L) D (flM M p n v) = _
      unfold jX_fill_5_c sm_wr
      rw [if_pos (nI_lt (by omega) hL), ck_nI (by omega) hL]
      show sm_eqp p p (sm_dq D D _) = _
      rw [eqp_self, dq_self, nI_clamp (by omega), flM_s, nI_succ]
    have he : jX_fill_5 p L v (nI n) (nI L) D (flM M p n v) = jX_fill_5 p L v (nI (n + 1)) (nI L) D (flM M p (n + 1) v) := sm_lp_eq hs
    rw [he]
    exact ih (n + 1) (by omega)
theorem j_fill {D : sm_D} {M : sm_M} {p L : Nat} {v : Int32} (hL : L < 2 ^ 31) : jX_fill p L v D M = some (0, D, flM M p L v) := by
  unfold jX_fill
  rw [eqp_self]
  have := j_fill_loop (D := D) (M := M) (p := p) (v := v) hL L 0 (by omega)
  rw [flM_0] at this
  exact this
/-- the table of a new object: NUMBER -/
abbrev tyN : Ty := ty_mk 0 none none none
theorem tabC_new {M : sm_M} (h : M 1 7 = 0) : tabC (flM M 7 128 (-1)) [] := by
  refine ⟨by simp, ?_, List.nodup_nil, fun i t hi => by simp at hi, fun b hb => Or.inl ⟨flM_at hb, fun i hi => by simp at hi⟩, fun i hi => by simp at hi⟩
  rw [flM_ne (by decide), h]
  rfl
theorem j_find_first {M : sm_M} {D : sm_D} (h : M 1 7 = 0) : ∃ M', jT_find 0 (-1) (-1) (-1) D (flM M 7 128 (-1)) = some (0, D, M') ∧ tabC M' [tyN] ∧ ∀ q, 8 < q → M' q = M q := by
  rcases j_find (D := D) (n := 0) (a := -1) (b := -1) (c := -1) (o1 := none) (o2 := none) (o3 := none) (tabC_new h) (by decide) (Or.inl ⟨rfl, rfl⟩) (Or.inl ⟨rfl, rfl⟩) (Or.inl ⟨rfl, rfl⟩) with ⟨r, hr, -⟩ | ⟨-, -, M', h1, h2, h3⟩ | ⟨-, h0, -⟩
  · simp at hr
  · exact ⟨M', h1, h2, fun q hq => by rw [h3 q hq, flM_ne (by omega)]⟩
  · simp at h0
