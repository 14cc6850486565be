/-! the reference's typing: its states -/
/-- LM the table at the start, LM' now; env bound; d frames below; expressions, numbers as in M0 -/
def zX (M0 : sm_M) (LM LM' env : List Ty) (d : Nat) (M : sm_M) : Prop := tabM M LM' ∧ (∃ K, LM' = LM ++ K) ∧ LM[0]? = some tyN ∧ M 1 20 = nI d ∧ M 1 21 = nI env.length ∧ (∀ (j : Nat) (t : Ty), env[j]? = some t → ty_pr LM' (M 23 (env.length - 1 - j)) (some t)) ∧ ∀ q, 7 ≤ q → q ≤ 17 → M q = M0 q
/-- what a typing leaves alone, wherever it ends -/
def zG (M' M : sm_M) : Prop := (∀ q, 6 < q → q ≤ 17 → M' q = M q) ∧ (∀ q, 23 < q → M' q = M q) ∧ ∀ j, j ≠ 1 → j ≠ 20 → j ≠ 21 → j ≠ 22 → M' 1 j = M 1 j
/-- and what it leaves alone where it succeeds -/
def zF (d m : Nat) (M' M : sm_M) : Prop := zG M' M ∧ (∀ j, j < d → M' 18 j = M 18 j ∧ M' 19 j = M 19 j ∧ M' 20 j = M 20 j ∧ M' 21 j = M 21 j) ∧ ∀ j, j < m → M' 23 j = M 23 j
theorem zG.trans {A B C : sm_M} (h : zG A B) (h' : zG B C) : zG A C := ⟨fun q a b => (h.1 q a b).trans (h'.1 q a b), fun q a => (h.2.1 q a).trans (h'.2.1 q a), fun j a b c d => (h.2.2 j a b c d).trans (h'.2.2 j a b c d)⟩
theorem zF.trans {d m : Nat} {A B C : sm_M} (h : zF d m A B) (h' : zF d m B C) : zF d m A C := by
  refine ⟨h.1.trans h'.1, fun j hj => ?_, fun j hj => (h.2.2 j hj).trans (h'.2.2 j hj)⟩
  obtain ⟨a1, a2, a3, a4⟩ := h.2.1 j hj
  obtain ⟨b1, b2, b3, b4⟩ := h'.2.1 j hj
  exact ⟨a1.trans b1, a2.trans b2, a3.trans b3, a4.trans b4⟩
/-- a typing from M on: it comes to a type that P says, d frames left; or it fails, and P says none -/
def zQ (M0 : sm_M) (LM : List Ty) (P : Ty → Prop) (b : Nat) (LM' env : List Ty) (d : Nat) (M : sm_M) : Prop := (∃ (t : Ty) (K' : List Ty) (M' : sm_M), P t ∧ jR_typeOf_17 1 [] M = jR_typeOf_17 1 [] M' ∧ zX M0 LM (LM' ++ K') env d M' ∧ ty_pr (LM' ++ K') (M' 1 22) (some t) ∧ zF d env.length M' M ∧ K'.length ≤ b) ∨ ((∀ t, ¬ P t) ∧ ∃ (K' : List Ty) (M' : sm_M), jR_typeOf_17 1 [] M = jR_typeOf_17 0 [] M' ∧ tabM M' (LM' ++ K') ∧ zG M' M ∧ K'.length ≤ b)
section
variable {M M1 : sm_M} {x : Int32}
theorem z_loop (h0 : (0 : Int32) < M 1 20) (h : jR_typeNext [] M = some (x, [], M1)) : jR_typeOf_17 1 [] M = jR_typeOf_17 x [] M1 := by
  unfold jR_typeOf_17
  refine sm_lp_eq ?_
  show jR_typeOf_17_c 1 [] M = _
  unfold jR_typeOf_17_c
  rw [if_neg (by decide), if_pos h0, h, bi_some, dq_self, dq_self]
theorem z_end1 (h0 : M 1 20 = 0) : jR_typeOf_17 1 [] M = some (M 1 22, [], M) := by
  unfold jR_typeOf_17
  refine sm_lp_end ?_
  show jR_typeOf_17_c 1 [] M = _
  unfold jR_typeOf_17_c jR_typeOf_36
  rw [if_neg (by decide), h0, if_neg (by decide), if_neg (by decide)]
  rfl
theorem z_end0 : jR_typeOf_17 0 [] M = some (-1, [], M) := by
  unfold jR_typeOf_17
  refine sm_lp_end ?_
  show jR_typeOf_17_c 0 [] M = _
  unfold jR_typeOf_17_c jR_typeOf_36
  rw [if_pos rfl, if_pos rfl]
  rfl
end
