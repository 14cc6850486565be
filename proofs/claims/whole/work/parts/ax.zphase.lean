/-! the reference's typing: the phases of a frame -/
section
variable {M0 M : sm_M} {LM LM' env : List Ty} {d e k : Nat}
def zN1 (M : sm_M) (d : Nat) : sm_M := sm_up (sm_up M 19 d (nI 2)) 20 d (M 1 22)
def zN2 (M : sm_M) (d : Nat) : sm_M := sm_up (sm_up M 19 d (nI 3)) 21 d (M 1 22)
theorem zN1_o {q : Nat} (a : q ≠ 19) (b : q ≠ 20) : zN1 M d q = M q := by unfold zN1; rw [up_ne b, up_ne a]
theorem zN2_o {q : Nat} (a : q ≠ 19) (b : q ≠ 21) : zN2 M d q = M q := by unfold zN2; rw [up_ne b, up_ne a]
theorem z_ph0 (hd : d < 60) (hX : zX M0 LM LM' env (d + 1) M) (h18 : M 18 d = nI e) (he : e < 40) (h19 : M 19 d = nI 0) (hk : M0 12 e = nI k) (k10 : k ≤ 10) (hp : 0 < tPn k) (k6 : k ≠ 6) : jR_typeNext [] M = some (1, [], bgF (sm_up M 19 d (nI 1)) (d + 1) (M0 14 e)) := by
  have h20 := hX.2.2.2.1
  have e12 : M 12 e = nI k := by rw [hX.2.2.2.2.2.2 12 (by decide) (by decide)]; exact hk
  have e14 : sm_up M 19 d (nI 1) 14 = M0 14 := by rw [up_ne (by decide), hX.2.2.2.2.2.2 14 (by decide) (by decide)]
  have ke : ∀ {ρ : Type} {q : Option ρ}, sm_ck (nI e) 40 q = q := ck_nI he (by decide)
  have ce : (nI e).toNatClampNeg = e := nI_clamp (by omega)
  have t3 := tPn_3 k10
  have h6 : ¬ nI k = (6 : Int32) := fun q => k6 (nI_inj (by omega) (by decide) (show nI k = nI 6 from q))
  have u20 : sm_up M 19 d (nI 1) 1 20 = nI (d + 1) := by rw [up_ne (by decide)]; exact h20
  rw [z_next (by omega) h20 h18 he h19 e12 k10, if_neg (show ¬ nI 0 = 1 by decide)]
  unfold jR_typeNext_112 jR_typeNext_127 jR_typeNext_142 jR_typeNext_212 jR_typeNext_246
  rw [if_neg (show ¬ nI 0 = 1 by decide), if_neg (show ¬ nI 0 = 2 by decide), if_pos (nI_lt hp (by omega)), if_neg h6, if_pos (show nI 0 = 0 from nI_0), ke, ce, show (0 : Nat) + 1 = 1 from rfl, e14]
  rw [z_begin (by omega) u20, bi_some, dq_self, bo_1]
theorem z_112a (hd : d < 60) (hX : zX M0 LM LM' env (d + 1) M) (he : e < 40) (k10 : k ≤ 10) (hp : 1 < tPn k) (k6 : k ≠ 6) : jR_typeNext_112 (nI d) (nI e) (nI 1) (nI k) (nI (tPn k)) [] (sm_up M 19 d (nI 2)) = some (1, [], bgF (zN1 M d) (d + 1) (M0 15 e)) := by
  have h20 := hX.2.2.2.1
  have kd : ∀ {ρ : Type} {q : Option ρ}, sm_ck (nI d) 64 q = q := ck_nI (by omega) (by decide)
  have cd : (nI d).toNatClampNeg = d := nI_clamp (by omega)
  have ke : ∀ {ρ : Type} {q : Option ρ}, sm_ck (nI e) 40 q = q := ck_nI he (by decide)
  have ce : (nI e).toNatClampNeg = e := nI_clamp (by omega)
  have t3 := tPn_3 k10
  have h6 : ¬ nI k = (6 : Int32) := fun q => k6 (nI_inj (by omega) (by decide) (show nI k = nI 6 from q))
  have ez : sm_up (sm_up M 19 d (nI 2)) 20 d (sm_up M 19 d (nI 2) 1 22) = zN1 M d := by rw [up_ne (show (1 : Nat) ≠ 19 by decide)]; rfl
  have e15 : zN1 M d 15 = M0 15 := by rw [zN1_o (by decide) (by decide), hX.2.2.2.2.2.2 15 (by decide) (by decide)]
  have u20 : zN1 M d 1 20 = nI (d + 1) := by rw [zN1_o (by decide) (by decide)]; exact h20
  unfold jR_typeNext_112 jR_typeNext_127 jR_typeNext_142 jR_typeNext_212 jR_typeNext_246
  simp only [sm_wr, kd, cd, ez]
  rw [if_pos (show nI 1 = 1 from rfl), if_neg (show ¬ nI 1 = 2 by decide), if_pos (nI_lt hp (by omega)), if_neg h6, if_neg (show ¬ nI 1 = 0 by decide), if_pos (show nI 1 = 1 from rfl), ke, ce, e15]
  rw [z_begin (by omega) u20, bi_some, dq_self, bo_1]
/-- the last phase but for what it comes to -/
theorem z_112b (hd : d < 60) (t1 : tPn k ≤ 1) : jR_typeNext_112 (nI d) (nI e) (nI 1) (nI k) (nI (tPn k)) [] (sm_up M 19 d (nI 2)) = jR_typeNext_142 (nI d) (nI e) (nI 1) (nI k) (nI (tPn k)) [] (zN1 M d) := by
  have kd : ∀ {ρ : Type} {q : Option ρ}, sm_ck (nI d) 64 q = q := ck_nI (by omega) (by decide)
  have cd : (nI d).toNatClampNeg = d := nI_clamp (by omega)
  have ez : sm_up (sm_up M 19 d (nI 2)) 20 d (sm_up M 19 d (nI 2) 1 22) = zN1 M d := by rw [up_ne (show (1 : Nat) ≠ 19 by decide)]; rfl
  unfold jR_typeNext_112 jR_typeNext_127
  simp only [sm_wr, kd, cd, ez]
  rw [if_pos (show nI 1 = 1 from rfl), if_neg (show ¬ nI 1 = 2 by decide)]
theorem z_ph2 (hd : d < 60) (hX : zX M0 LM LM' env (d + 1) M) (h18 : M 18 d = nI e) (he : e < 40) (h19 : M 19 d = nI 2) (hk : M0 12 e = nI k) (k10 : k ≤ 10) : jR_typeNext [] M = jR_typeNext_142 (nI d) (nI e) (nI 2) (nI k) (nI (tPn k)) [] (zN2 M d) := by
  have h20 := hX.2.2.2.1
  have e12 : M 12 e = nI k := by rw [hX.2.2.2.2.2.2 12 (by decide) (by decide)]; exact hk
  have kd : ∀ {ρ : Type} {q : Option ρ}, sm_ck (nI d) 64 q = q := ck_nI (by omega) (by decide)
  have cd : (nI d).toNatClampNeg = d := nI_clamp (by omega)
  have ez : sm_up (sm_up M 19 d (nI 3)) 21 d (sm_up M 19 d (nI 3) 1 22) = zN2 M d := by rw [up_ne (show (1 : Nat) ≠ 19 by decide)]; rfl
  rw [z_next (by omega) h20 h18 he h19 e12 k10, if_neg (show ¬ nI 2 = 1 by decide)]
  unfold jR_typeNext_112 jR_typeNext_127
  simp only [sm_wr, kd, cd]
  rw [if_neg (show ¬ nI 2 = 1 by decide), if_pos (show nI 2 = 2 from rfl), show (2 : Nat) + 1 = 3 from rfl, ez]
theorem z_ph2a (hd : d < 60) (hX : zX M0 LM LM' env (d + 1) M) (h18 : M 18 d = nI e) (he : e < 40) (h19 : M 19 d = nI 2) (hk : M0 12 e = nI 5) : jR_typeNext [] M = some (1, [], bgF (zN2 M d) (d + 1) (M0 16 e)) := by
  have h20 := hX.2.2.2.1
  have ke : ∀ {ρ : Type} {q : Option ρ}, sm_ck (nI e) 40 q = q := ck_nI he (by decide)
  have ce : (nI e).toNatClampNeg = e := nI_clamp (by omega)
  have e16 : zN2 M d 16 = M0 16 := by rw [zN2_o (by decide) (by decide), hX.2.2.2.2.2.2 16 (by decide) (by decide)]
  have u20 : zN2 M d 1 20 = nI (d + 1) := by rw [zN2_o (by decide) (by decide)]; exact h20
  rw [z_ph2 hd hX h18 he h19 hk (by decide)]
  unfold jR_typeNext_142 jR_typeNext_212 jR_typeNext_246
  rw [if_pos (show nI 2 < nI (tPn 5) by decide), if_neg (show ¬ nI 5 = 6 by decide), if_neg (show ¬ nI 2 = 0 by decide), if_neg (show ¬ nI 2 = 1 by decide), ke, ce, e16]
  rw [z_begin (by omega) u20, bi_some, dq_self, bo_1]
theorem zN1_X {n : Nat} (h : zX M0 LM LM' env n M) : zX M0 LM LM' env n (zN1 M d) := h.o (fun q a b _ => zN1_o a b)
theorem zN2_X {n : Nat} (h : zX M0 LM LM' env n M) : zX M0 LM LM' env n (zN2 M d) := h.o (fun q a _ b => zN2_o a b)
theorem zN1_F {m : Nat} : zF d m (zN1 M d) M := zF_o (fun q a b _ => zN1_o a b) (fun j hj => ⟨by unfold zN1; rw [up_ne (by decide), up_as (by omega)], by unfold zN1; rw [up_as (by omega), up_ne (by decide)], by rw [zN1_o (by decide) (by decide)]⟩)
theorem zN2_F {m : Nat} : zF d m (zN2 M d) M := zF_o (fun q a _ b => zN2_o a b) (fun j hj => ⟨by unfold zN2; rw [up_ne (by decide), up_as (by omega)], by rw [zN2_o (by decide) (by decide)], by unfold zN2; rw [up_as (by omega), up_ne (by decide)]⟩)
theorem zN1_19 : zN1 M d 19 d = nI 2 := by unfold zN1; rw [up_ne (by decide), up_at]
theorem zN1_20 : zN1 M d 20 d = M 1 22 := by unfold zN1; rw [up_at]
theorem zN2_19 : zN2 M d 19 d = nI 3 := by unfold zN2; rw [up_ne (by decide), up_at]
theorem zN2_20 : zN2 M d 20 d = M 20 d := by rw [zN2_o (by decide) (by decide)]
theorem zN2_21 : zN2 M d 21 d = M 1 22 := by unfold zN2; rw [up_at]
theorem u19_X {n : Nat} {v : Int32} (h : zX M0 LM LM' env n M) : zX M0 LM LM' env n (sm_up M 19 d v) := h.o (fun q a _ _ => up_ne a)
theorem u19_F {m : Nat} {v : Int32} : zF d m (sm_up M 19 d v) M := zF_o (fun q a _ _ => up_ne a) (fun j hj => ⟨up_as (by omega), by rw [up_ne (by decide)], by rw [up_ne (by decide)]⟩)
end
/-- x names a part of e, less high than h -/
def zE (M0 : sm_M) (e h : Nat) (x : Int32) : Prop := ∃ e' g : Nat, e' < e ∧ x = nI e' ∧ M0 17 e' = nI g ∧ g < h
