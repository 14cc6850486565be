/-! compile: the reference keeps its code -/
section
variable {p q L n k r j : Nat} {M : sm_M} {D : sm_D}
/-- row q, its first n as row p has them -/
def cpM (M : sm_M) (p q n : Nat) : sm_M := fun r => if r = q then (fun j => if j < n then M p j else M q j) else M r
theorem cp_at : cpM M p q n q j = if j < n then M p j else M q j := by unfold cpM; rw [if_pos rfl]
theorem cp_lt (h : j < n) : cpM M p q n q j = M p j := by rw [cp_at, if_pos h]
theorem cp_ge (h : ¬ j < n) : cpM M p q n q j = M q j := by rw [cp_at, if_neg h]
theorem cp_ne (h : r ≠ q) : cpM M p q n r = M r := by unfold cpM; rw [if_neg h]
theorem cp_0 : cpM M p q 0 = M := by
  funext r j
  by_cases h : r = q
  · rw [h, cp_ge (by omega)]
  · rw [cp_ne h]
theorem cp_s (h : p ≠ q) : sm_up (cpM M p q k) q k (M p k) = cpM M p q (k + 1) := by
  funext r j
  by_cases hr : r = q
  · rw [hr]
    by_cases hj : j = k
    · rw [hj, up_at, cp_lt (by omega)]
    · rw [up_as hj]
      by_cases hl : j < k
      · rw [cp_lt hl, cp_lt (by omega)]
      · rw [cp_ge hl, cp_ge (by omega)]
  · rw [up_ne hr, cp_ne hr, cp_ne hr]
theorem r_copy2 (h : p ≠ q) (hL : L < 2 ^ 31) : ∀ d k : Nat, k + d = L → jR_copy_2 p q L (nI L) (nI k) D (cpM M p q k) = some (0, D, cpM M p q L) := by
  intro d
  induction d with
  | zero =>
    intro k hk
    have e : k = L := by omega
    subst e
    unfold jR_copy_2
    refine sm_lp_end ?_
    show jR_copy_2_c p q k (nI k) (nI k) D (cpM M p q k) = _
    unfold jR_copy_2_c
    rw [if_neg (nI_nlt (Nat.le_refl k) hL)]
  | succ d ih =>
    intro k hk
    rw [← ih (k + 1) (by omega)]
    unfold jR_copy_2
    refine sm_lp_eq ?_
    show jR_copy_2_c p q L (nI L) (nI k) D (cpM M p q k) = _
    unfold jR_copy_2_c
    simp only [sm_wr]
    rw [if_pos (nI_lt (by omega) hL), ck_nI (by omega) hL, ck_nI (by omega) hL, nI_clamp (by omega), cp_ne h, cp_s h, eqp_self, eqp_self, dq_self, nI_1]
theorem r_copy (h : p ≠ q) (hL : L < 2 ^ 31) : jR_copy p q L (nI L) D M = some (0, D, cpM M p q L) := by
  have e := r_copy2 (D := D) (M := M) h hL L 0 (by omega)
  rw [cp_0, nI_0] at e
  unfold jR_copy
  rw [eqp_self, eqp_self, e]
def kp0 (M : sm_M) : sm_M := cpM (cpM (cpM (cpM (cpM (cpM (cpM M 29 54 301) 30 55 301) 31 56 301) 32 57 301) 33 58 41) 34 59 41) 35 60 123
def kp1 (M : sm_M) : sm_M := cpM (cpM (cpM (cpM (cpM (cpM (cpM M 54 29 301) 55 30 301) 56 31 301) 57 32 301) 58 33 41) 59 34 41) 60 35 123
theorem r_kp0 : jR_keep 0 D M = some (0, D, kp0 M) := by
  have c3 : ∀ {p q : Nat} {N : sm_M}, p ≠ q → jR_copy p q 301 301 D N = some (0, D, cpM N p q 301) := fun h => r_copy h (by decide)
  have c4 : ∀ {p q : Nat} {N : sm_M}, p ≠ q → jR_copy p q 41 41 D N = some (0, D, cpM N p q 41) := fun h => r_copy h (by decide)
  have c1 : ∀ {p q : Nat} {N : sm_M}, p ≠ q → jR_copy p q 123 123 D N = some (0, D, cpM N p q 123) := fun h => r_copy h (by decide)
  unfold jR_keep jR_keep0 kp0
  rw [if_pos rfl, ga_in (by decide), c3 (by decide), bi_some, dq_self, ga_in (by decide), c3 (by decide), bi_some, dq_self, ga_in (by decide), c3 (by decide), bi_some, dq_self, ga_in (by decide), c3 (by decide), bi_some, dq_self, ga_in (by decide), c4 (by decide), bi_some, dq_self, ga_in (by decide), c4 (by decide), bi_some, dq_self, ga_in (by decide), c1 (by decide), bi_some, dq_self]
theorem r_kp1 : jR_keep 1 D M = some (0, D, kp1 M) := by
  have c3 : ∀ {p q : Nat} {N : sm_M}, p ≠ q → jR_copy p q 301 301 D N = some (0, D, cpM N p q 301) := fun h => r_copy h (by decide)
  have c4 : ∀ {p q : Nat} {N : sm_M}, p ≠ q → jR_copy p q 41 41 D N = some (0, D, cpM N p q 41) := fun h => r_copy h (by decide)
  have c1 : ∀ {p q : Nat} {N : sm_M}, p ≠ q → jR_copy p q 123 123 D N = some (0, D, cpM N p q 123) := fun h => r_copy h (by decide)
  unfold jR_keep jR_keep1 kp1
  rw [if_neg (show ¬ (1 : Int32) = 0 by decide), if_pos rfl, ga_in (by decide), c3 (by decide), bi_some, dq_self, ga_in (by decide), c3 (by decide), bi_some, dq_self, ga_in (by decide), c3 (by decide), bi_some, dq_self, ga_in (by decide), c3 (by decide), bi_some, dq_self, ga_in (by decide), c4 (by decide), bi_some, dq_self, ga_in (by decide), c4 (by decide), bi_some, dq_self, ga_in (by decide), c1 (by decide), bi_some, dq_self]
theorem kp0_54 (h : j < 301) : kp0 M 54 j = M 29 j := by
  unfold kp0
  rw [cp_ne (show (54 : Nat) ≠ 60 by decide), cp_ne (show (54 : Nat) ≠ 59 by decide), cp_ne (show (54 : Nat) ≠ 58 by decide), cp_ne (show (54 : Nat) ≠ 57 by decide), cp_ne (show (54 : Nat) ≠ 56 by decide), cp_ne (show (54 : Nat) ≠ 55 by decide), cp_lt h]
theorem kp0_55 (h : j < 301) : kp0 M 55 j = M 30 j := by
  unfold kp0
  rw [cp_ne (show (55 : Nat) ≠ 60 by decide), cp_ne (show (55 : Nat) ≠ 59 by decide), cp_ne (show (55 : Nat) ≠ 58 by decide), cp_ne (show (55 : Nat) ≠ 57 by decide), cp_ne (show (55 : Nat) ≠ 56 by decide), cp_lt h, cp_ne (show (30 : Nat) ≠ 54 by decide)]
theorem kp0_56 (h : j < 301) : kp0 M 56 j = M 31 j := by
  unfold kp0
  rw [cp_ne (show (56 : Nat) ≠ 60 by decide), cp_ne (show (56 : Nat) ≠ 59 by decide), cp_ne (show (56 : Nat) ≠ 58 by decide), cp_ne (show (56 : Nat) ≠ 57 by decide), cp_lt h, cp_ne (show (31 : Nat) ≠ 55 by decide), cp_ne (show (31 : Nat) ≠ 54 by decide)]
theorem kp0_57 (h : j < 301) : kp0 M 57 j = M 32 j := by
  unfold kp0
  rw [cp_ne (show (57 : Nat) ≠ 60 by decide), cp_ne (show (57 : Nat) ≠ 59 by decide), cp_ne (show (57 : Nat) ≠ 58 by decide), cp_lt h, cp_ne (show (32 : Nat) ≠ 56 by decide), cp_ne (show (32 : Nat) ≠ 55 by decide), cp_ne (show (32 : Nat) ≠ 54 by decide)]
theorem kp0_58 (h : j < 41) : kp0 M 58 j = M 33 j := by
  unfold kp0
  rw [cp_ne (show (58 : Nat) ≠ 60 by decide), cp_ne (show (58 : Nat) ≠ 59 by decide), cp_lt h, cp_ne (show (33 : Nat) ≠ 57 by decide), cp_ne (show (33 : Nat) ≠ 56 by decide), cp_ne (show (33 : Nat) ≠ 55 by decide), cp_ne (show (33 : Nat) ≠ 54 by decide)]
theorem kp0_59 (h : j < 41) : kp0 M 59 j = M 34 j := by
  unfold kp0
  rw [cp_ne (show (59 : Nat) ≠ 60 by decide), cp_lt h, cp_ne (show (34 : Nat) ≠ 58 by decide), cp_ne (show (34 : Nat) ≠ 57 by decide), cp_ne (show (34 : Nat) ≠ 56 by decide), cp_ne (show (34 : Nat) ≠ 55 by decide), cp_ne (show (34 : Nat) ≠ 54 by decide)]
theorem kp0_60 (h : j < 123) : kp0 M 60 j = M 35 j := by
  unfold kp0
  rw [cp_lt h, cp_ne (show (35 : Nat) ≠ 59 by decide), cp_ne (show (35 : Nat) ≠ 58 by decide), cp_ne (show (35 : Nat) ≠ 57 by decide), cp_ne (show (35 : Nat) ≠ 56 by decide), cp_ne (show (35 : Nat) ≠ 55 by decide), cp_ne (show (35 : Nat) ≠ 54 by decide)]
theorem kp1_29 (h : j < 301) : kp1 M 29 j = M 54 j := by
  unfold kp1
  rw [cp_ne (show (29 : Nat) ≠ 35 by decide), cp_ne (show (29 : Nat) ≠ 34 by decide), cp_ne (show (29 : Nat) ≠ 33 by decide), cp_ne (show (29 : Nat) ≠ 32 by decide), cp_ne (show (29 : Nat) ≠ 31 by decide), cp_ne (show (29 : Nat) ≠ 30 by decide), cp_lt h]
theorem kp1_30 (h : j < 301) : kp1 M 30 j = M 55 j := by
  unfold kp1
  rw [cp_ne (show (30 : Nat) ≠ 35 by decide), cp_ne (show (30 : Nat) ≠ 34 by decide), cp_ne (show (30 : Nat) ≠ 33 by decide), cp_ne (show (30 : Nat) ≠ 32 by decide), cp_ne (show (30 : Nat) ≠ 31 by decide), cp_lt h, cp_ne (show (55 : Nat) ≠ 29 by decide)]
theorem kp1_31 (h : j < 301) : kp1 M 31 j = M 56 j := by
  unfold kp1
  rw [cp_ne (show (31 : Nat) ≠ 35 by decide), cp_ne (show (31 : Nat) ≠ 34 by decide), cp_ne (show (31 : Nat) ≠ 33 by decide), cp_ne (show (31 : Nat) ≠ 32 by decide), cp_lt h, cp_ne (show (56 : Nat) ≠ 30 by decide), cp_ne (show (56 : Nat) ≠ 29 by decide)]
theorem kp1_32 (h : j < 301) : kp1 M 32 j = M 57 j := by
  unfold kp1
  rw [cp_ne (show (32 : Nat) ≠ 35 by decide), cp_ne (show (32 : Nat) ≠ 34 by decide), cp_ne (show (32 : Nat) ≠ 33 by decide), cp_lt h, cp_ne (show (57 : Nat) ≠ 31 by decide), cp_ne (show (57 : Nat) ≠ 30 by decide), cp_ne (show (57 : Nat) ≠ 29 by decide)]
theorem kp1_33 (h : j < 41) : kp1 M 33 j = M 58 j := by
  unfold kp1
  rw [cp_ne (show (33 : Nat) ≠ 35 by decide), cp_ne (show (33 : Nat) ≠ 34 by decide), cp_lt h, cp_ne (show (58 : Nat) ≠ 32 by decide), cp_ne (show (58 : Nat) ≠ 31 by decide), cp_ne (show (58 : Nat) ≠ 30 by decide), cp_ne (show (58 : Nat) ≠ 29 by decide)]
theorem kp1_34 (h : j < 41) : kp1 M 34 j = M 59 j := by
  unfold kp1
  rw [cp_ne (show (34 : Nat) ≠ 35 by decide), cp_lt h, cp_ne (show (59 : Nat) ≠ 33 by decide), cp_ne (show (59 : Nat) ≠ 32 by decide), cp_ne (show (59 : Nat) ≠ 31 by decide), cp_ne (show (59 : Nat) ≠ 30 by decide), cp_ne (show (59 : Nat) ≠ 29 by decide)]
theorem kp1_35 (h : j < 123) : kp1 M 35 j = M 60 j := by
  unfold kp1
  rw [cp_lt h, cp_ne (show (60 : Nat) ≠ 34 by decide), cp_ne (show (60 : Nat) ≠ 33 by decide), cp_ne (show (60 : Nat) ≠ 32 by decide), cp_ne (show (60 : Nat) ≠ 31 by decide), cp_ne (show (60 : Nat) ≠ 30 by decide), cp_ne (show (60 : Nat) ≠ 29 by decide)]
theorem kp0_o (h : q < 54) : kp0 M q = M q := by
  unfold kp0
  rw [cp_ne (by omega), cp_ne (by omega), cp_ne (by omega), cp_ne (by omega), cp_ne (by omega), cp_ne (by omega), cp_ne (by omega)]
theorem kp1_o (h : q < 29 ∨ 35 < q) : kp1 M q = M q := by
  unfold kp1
  rw [cp_ne (by omega), cp_ne (by omega), cp_ne (by omega), cp_ne (by omega), cp_ne (by omega), cp_ne (by omega), cp_ne (by omega)]
end
