/-! the reference's machine begins -/
def rs1 (M : sm_M) (r : Nat) (v : Int32) : sm_M := sm_up (sm_up M 47 r v) 48 r 0
def rsM (M : sm_M) : sm_M := sm_up (sm_up (rs1 (rs1 (rs1 (rs1 (rs1 (sm_up (sm_up M 1 66 0) 1 69 0) 1 1) 2 0) 3 0) 4 0) 5 0) 1 67 0) 1 68 (-1)
theorem r_restart_step {D : sm_D} {M : sm_M} {r : Nat} (h : r < 6) : jR_restart_12_b D (nI r, M) = some (.inl (nI (r + 1), rs1 M r (if r = 1 then 1 else 0))) := by
  have hck : ∀ {ρ : Type} {q : Option ρ}, sm_ck (nI r) 6 q = q := ck_nI h (by decide)
  have h33 : ∀ v : Int32, sm_dq D D (jR_restart_33 (nI r) (nI r) v D M) = some (.inl (nI (r + 1), rs1 M r v)) := by
    intro v
    unfold jR_restart_33 sm_wr
    rw [dq_self, hck, nI_clamp (by omega)]
    show sm_ck (nI r) 6 (sm_dq D D _) = _
    rw [hck, dq_self, nI_succ]
    rfl
  show jR_restart_12_c (nI r) D M = _
  unfold jR_restart_12_c
  have h6 : nI r < (6 : Int32) := show nI r < nI 6 from nI_lt h (by decide)
  rw [if_pos h6]
  by_cases hr : r = 1
  · subst hr
    rw [if_pos (show nI 1 = (1 : Int32) from rfl), h33]
    rfl
  · have h1 : ¬ nI r = (1 : Int32) := fun q => hr (nI_inj (by omega) (by decide) (show nI r = nI 1 from q))
    rw [if_neg h1, h33, if_neg hr]
theorem r_restart {D : sm_D} {M : sm_M} : jR_restart D M = some (0, D, rsM M) := by
  show jR_restart_12 (nI 1) D (sm_up (sm_up M 1 66 0) 1 69 0) = _
  unfold jR_restart_12
  rw [sm_lp_eq (r_restart_step (by decide)), sm_lp_eq (r_restart_step (by decide)), sm_lp_eq (r_restart_step (by decide)), sm_lp_eq (r_restart_step (by decide)), sm_lp_eq (r_restart_step (by decide))]
  refine sm_lp_end ?_
  show jR_restart_12_c (nI 6) D _ = _
  unfold jR_restart_12_c
  rw [if_neg (show ¬ nI 6 < (6 : Int32) by decide)]
  rfl
/-- the reference's memory behind its constructor -/
def mdl0 (M : sm_M) : Prop := ∃ M1 : sm_M, tabM M1 [tyN] ∧ (∀ j, j ≠ 1 → M1 1 j = 0) ∧ (∀ q, 6 < q → M1 q = fun _ => 0) ∧ M = rsM (sm_up (sm_up (sm_up (sm_up (sm_up M1 7 0 0) 1 7 1) 9 0 (-1)) 10 0 (-1)) 11 0 (-1))
theorem r_find_first {D : sm_D} : ∃ M1, jR_find 0 (-1) (-1) (-1) D (fun _ _ => 0) = some (0, D, M1) ∧ tabM M1 [tyN] ∧ (∀ j, j ≠ 1 → M1 1 j = 0) ∧ ∀ q, 6 < q → M1 q = fun _ => 0 := by
  have hT : tabM (fun _ _ => 0) [] := ⟨by simp, rfl, List.nodup_nil, fun i t hi => by simp at hi⟩
  rcases r_find (D := D) (n := 0) (a := -1) (b := -1) (c := -1) (o1 := none) (o2 := none) (o3 := none) hT (by decide) (Or.inl ⟨rfl, rfl⟩) (Or.inl ⟨rfl, rfl⟩) (Or.inl ⟨rfl, rfl⟩) (by decide) with ⟨r, hr, -⟩ | ⟨-, M', h1, h2, h3, h4⟩
  · simp at hr
  · exact ⟨M', h1, h2, h3, h4⟩
