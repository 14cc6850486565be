/-! evaluation: results on both sides; a step is begun -/
noncomputable def rS (e y : Int32) (M : sm_M) : Option sm_S := sm_bi (jR_step e y [] M) (fun x _ N => jR_evaluate_60 x [] N)
def vB (d : Nat) (M' M : sm_M) : Prop := ∀ j, j < d → M' 18 j = M 18 j ∧ M' 19 j = M 19 j ∧ M' 20 j = M 20 j ∧ M' 22 j = M 22 j
/-- the step limit or the depth limit is met on both sides -/
def vX (B Bm : sm_M) (D : sm_D) (jc jr : Option sm_S) : Prop := ∃ (z : Int32) (s' : Nat) (Mc' Mm' : sm_M), jc = some (z, D, Mc') ∧ jr = jR_evaluate_60 0 [] Mm' ∧ Mc' 18 9 = 1 ∧ Mc' 18 8 = nI s' ∧ Mm' 1 29 = nI s' ∧ vO B Bm Mc' Mm'
def vY (nE : Nat) (B Bm : sm_M) (L : List Ty) (D : sm_D) (c1 c2 nV nF : Nat) (TV : Nat → Ty) (TF : Nat → List Ty) (t : Ty) (d : Nat) (Mb : sm_M) (jc jr : Option sm_S) : Prop := ∃ (v nV' nF' s' : Nat) (TV' : Nat → Ty) (TF' : Nat → List Ty) (Mc' Mm' : sm_M), jc = some (nI v, D, Mc') ∧ jr = jR_evaluate_60 1 [] Mm' ∧ vS nE B Bm L nV' nF' s' TV' TF' Mc' Mm' ∧ (v < nV' ∧ TV' v = t ∧ Mm' 1 22 = nI v ∧ Mm' 1 20 = nI d) ∧ vB d Mm' Mb ∧ (nV ≤ nV' ∧ nF ≤ nF' ∧ nV' + c1 ≤ s' ∧ 3 * nF' + c2 ≤ s') ∧ (∀ i, i < nV → TV' i = TV i) ∧ ∀ f, f < nF → TF' f = TF f
def vQ (nE : Nat) (B Bm : sm_M) (L : List Ty) (D : sm_D) (c1 c2 nV nF : Nat) (TV : Nat → Ty) (TF : Nat → List Ty) (t : Ty) (d : Nat) (Mb : sm_M) (jc jr : Option sm_S) : Prop := vY nE B Bm L D c1 c2 nV nF TV TF t d Mb jc jr ∨ vX B Bm D jc jr
/-- what may be asked of evaluation one step less deep -/
def vP (nE : Nat) (B Bm : sm_M) (L : List Ty) (D : sm_D) (n : Nat) : Prop := ∀ (d e : Nat) (env : List Ty) (x y : Int32) (t : Ty) (m c1 c2 nV nF s : Nat) (TV : Nat → Ty) (TF : Nat → List Ty) (Mc Mm : sm_M), d + n = 61 → d ≤ 60 → vS nE B Bm L nV nF s TV TF Mc Mm → e < nE → pT (B 10) (B 11) (B 12) (B 13) (B 14) L m env e t → vE nF TF x y env → Mm 1 20 = nI d → nV + c1 ≤ s → 3 * nF + c2 ≤ s → vQ nE B Bm L D c1 (c2 + 1) nV nF TV TF t d Mm (jV_find n (nI e) x (nI (d + 1)) D Mc) (rS (nI e) y Mm)
section
variable {nE : Nat} {B Bm : sm_M} {L : List Ty} {nV nF s : Nat} {TV : Nat → Ty} {TF : Nat → List Ty} {Mc Mm Mc' Mm' M N M1 Mb : sm_M} {D : sm_D} {x y : Int32} {env : List Ty} {d e k ph n : Nat} {t t' : Ty}
theorem v_loop (h0 : (0 : Int32) < M 1 20) (h : jR_evaluateNext [] M = some (x, [], M1)) : jR_evaluate_60 1 [] M = jR_evaluate_60 x [] M1 := by
  unfold jR_evaluate_60
  refine sm_lp_eq ?_
  show jR_evaluate_60_c 1 [] M = _
  unfold jR_evaluate_60_c
  rw [if_neg (by decide), if_pos h0, h, bi_some, dq_self, dq_self]
/-- a step of the reference -/
def vI (M : sm_M) (d s : Nat) (e y : Int32) : sm_M := sm_up (bgF (sm_up M 1 29 (nI (s + 1))) d e) 22 d y
theorem r_step {e : Int32} (h20 : M 1 20 = nI d) (h29 : M 1 29 = nI s) (hd : d < 60) (hs : s < 500) : jR_step e y [] M = some (1, [], vI M d s e y) := by
  have n5 : ¬ nI s = (500 : Int32) := fun q => by
    have := nI_inj (by omega) (by decide) (show nI s = nI 500 from q)
    omega
  have n6 : ¬ nI d = (60 : Int32) := fun q => by
    have := nI_inj (by omega) (by decide) (show nI d = nI 60 from q)
    omega
  have kd : ∀ {ρ : Type} {q : Option ρ}, sm_ck (nI d) 64 q = q := ck_nI (by omega) (by decide)
  have cd : (nI d).toNatClampNeg = d := nI_clamp (by omega)
  have b20 : bgF (sm_up M 1 29 (nI (s + 1))) d e 1 20 = nI (d + 1) := up_at
  unfold jR_step
  simp only [sm_wr]
  rw [h29, h20, if_neg n5, if_neg n6, nI_1, z_begin (d := d) (by omega) (by rw [up_as (by decide)]; exact h20), bi_some, dq_self, b20, nI_pred, kd, cd, bo_1]
  rfl
theorem r_step0 {e : Int32} (h20 : M 1 20 = nI d) (h29 : M 1 29 = nI s) (hs : s = 500 ∨ d = 60) : jR_step e y [] M = some (0, [], M) := by
  unfold jR_step jR_step_19
  rw [h29, h20, bo_0]
  by_cases g : s = 500
  · subst g
    rw [if_pos (show nI 500 = (500 : Int32) from rfl)]
  · by_cases g2 : nI s = (500 : Int32)
    · rw [if_pos g2]
    · have g3 : d = 60 := by omega
      subst g3
      rw [if_neg g2, if_pos (show nI 60 = (60 : Int32) from rfl)]
theorem r_stepS {e : Int32} (h20 : N 1 20 = nI d) (h29 : N 1 29 = nI s) (hd : d ≤ 60) (hs : s ≤ 500) (h0 : (0 : Int32) < M 1 20) (h : jR_evaluateNext [] M = sm_bi (jR_step e y [] N) (fun x E M => sm_dq E [] (sm_bo x (some (x, [], M))))) : jR_evaluate_60 1 [] M = rS e y N := by
  by_cases g : s = 500 ∨ d = 60
  · rw [r_step0 h20 h29 g, bi_some, dq_self, bo_0] at h
    unfold rS
    rw [r_step0 h20 h29 g, bi_some]
    exact v_loop h0 h
  · rw [r_step h20 h29 (by omega) (by omega), bi_some, dq_self, bo_1] at h
    unfold rS
    rw [r_step h20 h29 (by omega) (by omega), bi_some]
    exact v_loop h0 h
theorem v_next (hd : d < 60) (h20 : M 1 20 = nI (d + 1)) (h18 : M 18 d = nI e) (he : e < 40) (h19 : M 19 d = nI ph) (hk : M 12 e = nI k) : jR_evaluateNext [] M = sm_bi (jR_partNext (nI k) (nI e) (nI ph) [] (sm_up M 19 d (nI (ph + 1)))) (fun x2 E2 M2 => sm_dq E2 [] (if nI ph = (1 : Int32) then jR_evaluateNext_72 (nI d) (nI e) (nI ph) (nI k) (M 22 d) x2 [] (sm_up M2 20 d (M2 1 22)) else jR_evaluateNext_72 (nI d) (nI e) (nI ph) (nI k) (M 22 d) x2 [] M2)) := by
  have kd : ∀ {ρ : Type} {q : Option ρ}, sm_ck (nI d) 64 q = q := ck_nI (by omega) (by decide)
  have cd : (nI d).toNatClampNeg = d := nI_clamp (by omega)
  have ke : ∀ {ρ : Type} {q : Option ρ}, sm_ck (nI e) 40 q = q := ck_nI he (by decide)
  have ce : (nI e).toNatClampNeg = e := nI_clamp (by omega)
  unfold jR_evaluateNext
  simp only [h20, nI_pred, kd, cd, h18, ke, ce, hk, sm_wr, h19, nI_1]
theorem v_pnN (k10 : k ≤ 10) (p2 : ph ≤ 3) (h : k = 6 ∨ tPn k ≤ ph) : jR_partNext (nI k) (nI e) (nI ph) [] N = some (-1, [], N) := by
  have t3 := tPn_3 k10
  unfold jR_partNext jR_partNext_14
  by_cases g : k = 6
  · subst g
    rw [if_pos (show nI 6 = (6 : Int32) from rfl)]
  · have h6 : ¬ nI k = (6 : Int32) := fun q => g (nI_inj (by omega) (by decide) (show nI k = nI 6 from q))
    rw [if_neg h6, r_parts k10, bi_some, dq_self, if_neg (nI_nlt (by omega) (by omega))]
theorem v_pn (he : e < 40) (k10 : k ≤ 10) (k6 : k ≠ 6) (h5 : k = 5 → ph = 0) (p1 : ph < 2) (h : ph < tPn k) : jR_partNext (nI k) (nI e) (nI ph) [] N = some (if ph = 0 then N 14 e else N 15 e, [], N) := by
  have t3 := tPn_3 k10
  have ke : ∀ {ρ : Type} {q : Option ρ}, sm_ck (nI e) 40 q = q := ck_nI he (by decide)
  have ce : (nI e).toNatClampNeg = e := nI_clamp (by omega)
  have h6 : ¬ nI k = (6 : Int32) := fun q => k6 (nI_inj (by omega) (by decide) (show nI k = nI 6 from q))
  have hj : jR_partNext_62 (nI e) (nI ph) [] N = some (if ph = 0 then N 14 e else N 15 e, [], N) := by
    unfold jR_partNext_62 jR_partNext_81
    rw [ke, ke, ce]
    by_cases g : ph = 0
    · subst g
      rw [if_pos (show nI 0 = 0 from nI_0), if_pos rfl]
    · have g1 : ph = 1 := by omega
      subst g1
      rw [if_neg (show ¬ nI 1 = 0 by decide), if_neg (by decide)]
  unfold jR_partNext
  rw [if_neg h6, r_parts k10, bi_some, dq_self, if_pos (nI_lt h (by omega))]
  by_cases g5 : k = 5
  · have g0 := h5 g5
    subst g0
    subst g5
    rw [if_pos (show nI 5 = (5 : Int32) from rfl), if_neg (show ¬ (0 : Int32) < nI 0 by decide), hj]
  · have h5' : ¬ nI k = (5 : Int32) := fun q => g5 (nI_inj (by omega) (by decide) (show nI k = nI 5 from q))
    rw [if_neg h5', hj]
theorem v_72 {e' : Nat} (he : e' < 40) : jR_evaluateNext_72 (nI d) (nI e) (nI ph) (nI k) y (nI e') [] N = sm_bi (jR_step (nI e') y [] N) (fun x E M => sm_dq E [] (sm_bo x (some (x, [], M)))) := by
  unfold jR_evaluateNext_72
  rw [if_neg (nI_pos (by omega))]
theorem v_72N (h : k ≠ 7 ∨ ph ≠ 2) (hk : k ≤ 10) (hp : ph ≤ 3) : jR_evaluateNext_72 (nI d) (nI e) (nI ph) (nI k) y (-1) [] N = jR_evaluateNext_152 (nI d) (nI e) (nI k) y [] N := by
  unfold jR_evaluateNext_72
  rw [if_pos (by decide)]
  by_cases g : k = 7
  · subst g
    have h2 : ¬ nI ph = (2 : Int32) := fun q => by
      have := nI_inj (by omega) (by decide) (show nI ph = nI 2 from q)
      omega
    rw [if_pos (show nI 7 = (7 : Int32) from rfl), if_neg h2]
  · have h7 : ¬ nI k = (7 : Int32) := fun q => g (nI_inj (by omega) (by decide) (show nI k = nI 7 from q))
    rw [if_neg h7]
/-- one evaluation behind the other -/
theorem vQ.bi {c1 c2 c1' c2' d' : Nat} {f : Int32 → sm_D → sm_M → Option sm_S} {jc jr : Option sm_S} (h : vQ nE B Bm L D c1 c2 nV nF TV TF t' d' N jc jr) (hs : ∀ (v nV' nF' s' : Nat) (TV' : Nat → Ty) (TF' : Nat → List Ty) (Mc' Mm' : sm_M), vS nE B Bm L nV' nF' s' TV' TF' Mc' Mm' → v < nV' → TV' v = t' → Mm' 1 22 = nI v → Mm' 1 20 = nI d' → vB d' Mm' N → nV ≤ nV' → nF ≤ nF' → nV' + c1 ≤ s' → 3 * nF' + c2 ≤ s' → (∀ i, i < nV → TV' i = TV i) → (∀ g, g < nF → TF' g = TF g) → vQ nE B Bm L D c1' c2' nV nF TV TF t d Mb (f (nI v) D Mc') (jR_evaluate_60 1 [] Mm')) (hf : ∀ (z : Int32) (Mc' : sm_M), Mc' 18 9 = 1 → ∃ (z' : Int32) (Mc2 : sm_M), f z D Mc' = some (z', D, Mc2) ∧ Mc2 18 9 = 1 ∧ Mc2 18 8 = Mc' 18 8 ∧ ∀ q, q ≠ 18 → Mc2 q = Mc' q) : vQ nE B Bm L D c1' c2' nV nF TV TF t d Mb (sm_bi jc f) jr := by
  rcases h with ⟨v, nV', nF', s', TV', TF', Mc', Mm', rfl, rfl, a1, ⟨a2, a3, a4, a5⟩, a6, ⟨a7, a8, a9, a10⟩, a11, a12⟩ | ⟨z, s', Mc', Mm', rfl, rfl, b1, b2, b3, b4⟩
  · exact hs v nV' nF' s' TV' TF' Mc' Mm' a1 a2 a3 a4 a5 a6 a7 a8 a9 a10 a11 a12
  · obtain ⟨z', Mc2, e1, e2, e3, e4⟩ := hf z Mc' b1
    exact Or.inr ⟨z', s', Mc2, Mm', e1, rfl, e2, e3.trans b2, b3, fun q hq => by rw [e4 q (by omega)]; exact b4.1 q hq, b4.2⟩
theorem vQ.low {c1 c2 c1' c2' nV0 nF0 : Nat} {TV0 : Nat → Ty} {TF0 : Nat → List Ty} {jc jr : Option sm_S} (h : vQ nE B Bm L D c1 c2 nV nF TV TF t d Mb jc jr) (h1 : c1' ≤ c1) (h2 : c2' ≤ c2) (h3 : nV0 ≤ nV) (h4 : nF0 ≤ nF) (h5 : ∀ i, i < nV0 → TV i = TV0 i) (h6 : ∀ g, g < nF0 → TF g = TF0 g) : vQ nE B Bm L D c1' c2' nV0 nF0 TV0 TF0 t d Mb jc jr := by
  rcases h with ⟨v, nV', nF', s', TV', TF', Mc', Mm', e1, e2, a1, a2, a6, ⟨a7, a8, a9, a10⟩, a11, a12⟩ | h
  · exact Or.inl ⟨v, nV', nF', s', TV', TF', Mc', Mm', e1, e2, a1, a2, a6, ⟨by omega, by omega, by omega, by omega⟩, fun i hi => (a11 i (by omega)).trans (h5 i hi), fun g hg => (a12 g (by omega)).trans (h6 g hg)⟩
  · exact Or.inr h
theorem vQ.base {c1 c2 : Nat} {Mb' : sm_M} {jc jr : Option sm_S} (h : vQ nE B Bm L D c1 c2 nV nF TV TF t d Mb jc jr) (hb : vB d Mb Mb') : vQ nE B Bm L D c1 c2 nV nF TV TF t d Mb' jc jr := by
  rcases h with ⟨v, nV', nF', s', TV', TF', Mc', Mm', e1, e2, a1, a2, a6, a7⟩ | h
  · refine Or.inl ⟨v, nV', nF', s', TV', TF', Mc', Mm', e1, e2, a1, a2, fun j hj => ?_, a7⟩
    obtain ⟨p1, p2, p3, p4⟩ := a6 j hj
    obtain ⟨q1, q2, q3, q4⟩ := hb j hj
    exact ⟨p1.trans q1, p2.trans q2, p3.trans q3, p4.trans q4⟩
  · exact Or.inr h
/-- a failed evaluation goes on as a failed one -/
theorem f_fail {f l : Int32} (h : M 18 9 = 1) (hn : 1 ≤ n) : jV_find n (nI e) f l D M = some (0, D, sm_up M 18 9 1) := by
  obtain ⟨m, rfl⟩ : ∃ m, n = m + 1 := ⟨n - 1, by omega⟩
  show jV_find0 (jV_find m) (nI e) f l D M = _
  unfold jV_find0 jV_find_23
  rw [h, if_neg (by decide), bo_1]
  rfl
end
