/-! the reference's typing: one round of its loop -/
section
variable {M N : sm_M} {d e k ph : Nat}
theorem z_next (hd : d < 64) (h20 : M 1 20 = nI (d + 1)) (h18 : M 18 d = nI e) (he : e < 40) (h19 : M 19 d = nI ph) (hk : M 12 e = nI k) (k10 : k ≤ 10) : jR_typeNext [] M = (if nI ph = (1 : Int32) then (if nI k < (2 : Int32) then (jR_typeNext_70 (nI d) (nI e) (nI ph) (nI k) (nI (tPn k)) [] (sm_up M 19 d (nI (ph + 1)))) else (if (5 : Int32) < nI k then (jR_typeNext_70 (nI d) (nI e) (nI ph) (nI k) (nI (tPn k)) [] (sm_up M 19 d (nI (ph + 1)))) else (if M 1 22 = (0 : Int32) then (jR_typeNext_70 (nI d) (nI e) (nI ph) (nI k) (nI (tPn k)) [] (sm_up M 19 d (nI (ph + 1)))) else (jR_typeNext_110 [] (sm_up M 19 d (nI (ph + 1))))))) else (jR_typeNext_112 (nI d) (nI e) (nI ph) (nI k) (nI (tPn k)) [] (sm_up M 19 d (nI (ph + 1))))) := by
  have kd : ∀ {ρ : Type} {q : Option ρ}, sm_ck (nI d) 64 q = q := ck_nI hd (by decide)
  have cd : (nI d).toNatClampNeg = d := nI_clamp (by omega)
  have ke : ∀ {ρ : Type} {q : Option ρ}, sm_ck (nI e) 40 q = q := ck_nI he (by decide)
  have ce : (nI e).toNatClampNeg = e := nI_clamp (by omega)
  unfold jR_typeNext
  simp only [h20, nI_pred, kd, cd, h18, ke, ce, hk]
  rw [r_parts k10, bi_some, dq_self]
  simp only [sm_wr, h19, nI_1]
  rw [up_ne (show (1 : Nat) ≠ 19 by decide)]
/-- a part is begun -/
def bgF (M : sm_M) (d : Nat) (x : Int32) : sm_M := sm_up (sm_up (sm_up M 18 d x) 19 d 0) 1 20 (nI (d + 1))
theorem z_begin (hd : d < 64) (h20 : M 1 20 = nI d) {x : Int32} : jR_begin x [] M = some (0, [], bgF M d x) := by
  have kd : ∀ {ρ : Type} {q : Option ρ}, sm_ck (nI d) 64 q = q := ck_nI hd (by decide)
  have cd : (nI d).toNatClampNeg = d := nI_clamp (by omega)
  have u1 : ∀ {M : sm_M} {q j : Nat} {x : Int32}, 1 ≠ q → sm_up M q j x 1 = M 1 := fun h => up_ne h
  simp only [jR_begin, sm_wr, h20, kd, cd, u1 (show (1 : Nat) ≠ 18 by decide), u1 (show (1 : Nat) ≠ 19 by decide), nI_1]
  rfl
end
