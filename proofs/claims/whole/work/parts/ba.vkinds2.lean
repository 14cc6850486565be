/-! evaluation: the kinds -/
section
variable {nE : Nat} {B Bm : sm_M} {L : List Ty} {nV nF s : Nat} {TV : Nat → Ty} {TF : Nat → List Ty} {Mc Mm Mc' Mm' M N M1 Mb : sm_M} {D : sm_D} {x y : Int32} {env : List Ty} {d e k ph n c1 c2 m h : Nat} {t t' ta tb : Ty}
/-- the frame's state when it is left at phase ph -/
def vL (M : sm_M) (d ph : Nat) : sm_M := sm_up (sm_up M 19 d (nI ph)) 1 20 (nI d)
theorem vL_S (hS : vS nE B Bm L nV nF s TV TF Mc Mm) : vS nE B Bm L nV nF s TV TF Mc (vL Mm d ph) := hS.o (fun q a _ b _ _ => by unfold vL; rw [up_ne a, up_ne b]) (fun j a _ => by unfold vL; rw [up_as a, up_ne (by decide)])
theorem vL_B (hb : vB d Mm Mb) : vB d (vL Mm d ph) Mb := fun j hj => by
  unfold vL
  rw [up_ne (show (18 : Nat) ≠ 1 by decide), up_ne (show (19 : Nat) ≠ 1 by decide), up_ne (show (20 : Nat) ≠ 1 by decide), up_ne (show (22 : Nat) ≠ 1 by decide), up_ne (show (18 : Nat) ≠ 19 by decide), up_ne (show (20 : Nat) ≠ 19 by decide), up_ne (show (22 : Nat) ≠ 19 by decide), up_as (by omega)]
  exact hb j hj
theorem vL_o {q : Nat} (a : q ≠ 1) (b : q ≠ 19) : vL M d ph q = M q := by unfold vL; rw [up_ne a, up_ne b]
theorem vL_1 {j : Nat} (a : j ≠ 20) : vL M d ph 1 j = M 1 j := by unfold vL; rw [up_as a, up_ne (by decide)]
/-- a frame that has no further part -/
theorem v_last (hH : vH nE L B Bm) (hd : d < 60) (hS : vS nE B Bm L nV nF s TV TF Mc Mm) (hM : vM d e ph y Mm) (he : e < nE) (hk : B 10 e = nI k) (k10 : k ≤ 10) (p3 : ph ≤ 3) (p1 : ph ≠ 1) (hp : k = 6 ∨ tPn k ≤ ph) (h7 : k ≠ 7 ∨ ph ≠ 2) : jR_evaluateNext [] Mm = jR_evaluateNext_152 (nI d) (nI e) (nI k) y [] (sm_up Mm 19 d (nI (ph + 1))) := by
  have hl := hH.1
  obtain ⟨q1, q2, q3, q4, q5⟩ := hH.2.1 e he
  have e12 : Mm 12 e = nI k := by rw [hS.row (by decide) (by decide), q1]; exact hk
  have h1 : ¬ nI ph = (1 : Int32) := fun q => p1 (nI_inj (by omega) (by decide) (show nI ph = nI 1 from q))
  rw [v_next hd hM.1 hM.2.1 (by omega) hM.2.2.1 e12, v_pnN k10 p3 hp, bi_some, dq_self, if_neg h1, v_72N h7 k10 p3, hM.2.2.2]
theorem u_pop (hM : vM d e ph y Mm) {ph' : Nat} : sm_up (sm_up Mm 19 d (nI ph')) 1 20 (sm_up Mm 19 d (nI ph') 1 20 - 1) = vL Mm d ph' := by
  rw [up_ne (show (1 : Nat) ≠ 19 by decide), hM.1, nI_pred]
  rfl
theorem v_const (hH : vH nE L B Bm) (hd : d < 60) (hS : vS nE B Bm L nV nF s TV TF Mc Mm) (hM : vM d e 0 y Mm) (hb : vB d Mm Mb) (he : e < nE) (hk : B 10 e = nI 0) (h1 : nV + 1 + c1 ≤ s) (h2 : 3 * nF + c2 ≤ s) : vQ nE B Bm L D c1 c2 nV nF TV TF tyN d Mb (sm_bi (jV_value 0 (B 11 e) 0 D Mc) (fun x E M' => sm_dq E D (some (x, D, M')))) (jR_evaluate_60 1 [] Mm) := by
  have hl := hH.1
  obtain ⟨q1, q2, q3, q4, q5⟩ := hH.2.1 e he
  have ke : ∀ {ρ : Type} {q : Option ρ}, sm_ck (nI e) 40 q = q := ck_nI (by omega) (by decide)
  have ce : (nI e).toNatClampNeg = e := nI_clamp (by omega)
  have hS' := vL_S (d := d) (ph := 1) hS
  refine v_lvN (k' := 0) (a' := B 11 e) (b' := 0) hS' up_at (vL_B hb) h1 h2 (fun Mc' Mm' TV' a1 a2 a3 a4 a5 a6 a7 => Or.inl ⟨a1, a4.trans a2.symm, a6⟩) (hM.pos hd) ?_
  rw [v_last hH hd hS hM he hk (by decide) (by decide) (by decide) (Or.inr (by decide)) (Or.inl (by decide))]
  unfold jR_evaluateNext_152 jR_evaluateNext_364
  simp only [sm_wr]
  rw [if_pos (show nI 0 = 0 from nI_0), ke, ce, u_pop hM, hS'.row (show 2 ≤ 13 by decide) (by decide), q2]
  simp only [bo_1]
theorem v_vari {v : Nat} (hH : vH nE L B Bm) (hd : d < 60) (hS : vS nE B Bm L nV nF s TV TF Mc Mm) (hM : vM d e 0 y Mm) (hb : vB d Mm Mb) (he : e < nE) (hk : B 10 e = nI 1) (hv : v ≤ 20) (h11 : B 11 e = nI v) (hE : vE nF TF x y env) (ht : env[v]? = some t) (h1 : nV + c1 ≤ s) (h2 : 3 * nF + c2 ≤ s) : vQ nE B Bm L D c1 c2 nV nF TV TF t d Mb (jV_ofVariable (nI v) x D Mc) (jR_evaluate_60 1 [] Mm) := by
  have hl := hH.1
  obtain ⟨q1, q2, q3, q4, q5⟩ := hH.2.1 e he
  have hS' := vL_S (d := d) (ph := 1) hS
  have e13 : vL Mm d 1 13 e = nI v := by rw [hS'.row (by decide) (by decide), q2]; exact h11
  obtain ⟨w, w1, w2, w3, w4⟩ := v_walk (D := D) hS' (by omega) hv e13 v x y env (Nat.le_refl _) (by rw [Nat.sub_self]) hE ht
  rw [Nat.sub_self, nI_0] at w4
  unfold jV_ofVariable
  rw [w3]
  refine v_lv hS' w1 w2 up_at (vL_B hb) h1 h2 (hM.pos hd) ?_
  rw [v_last hH hd hS hM he hk (by decide) (by decide) (by decide) (Or.inr (by decide)) (Or.inl (by decide))]
  unfold jR_evaluateNext_152 jR_evaluateNext_364
  simp only [sm_wr]
  rw [if_neg (show ¬ nI 1 = 0 by decide), if_pos (show nI 1 = 1 from rfl), u_pop hM]
  unfold jR_boundTo
  rw [w4, bi_some, dq_self, bo_1]
theorem v_lam (hH : vH nE L B Bm) (hd : d < 60) (hS : vS nE B Bm L nV nF s TV TF Mc Mm) (hM : vM d e 0 y Mm) (hb : vB d Mm Mb) (he : e < nE) (hk : B 10 e = nI 6) (hE : vE nF TF x y env) (ht : t = tyF ta tb) (hT : pT (B 10) (B 11) (B 12) (B 13) (B 14) L m (ta :: t :: env) (xN (B 12) e) tb) (h1 : nV + 1 + c1 ≤ s) (h2 : 3 * nF + c2 ≤ s) : vQ nE B Bm L D c1 c2 nV nF TV TF t d Mb (sm_bi (jV_value 2 (nI e) x D Mc) (fun x E M' => sm_dq E D (some (x, D, M')))) (jR_evaluate_60 1 [] Mm) := by
  have hS' := vL_S (d := d) (ph := 1) hS
  refine v_lvN (k' := 2) (a' := nI e) (b' := y) hS' up_at (vL_B hb) h1 h2 (fun Mc' Mm' TV' a1 a2 a3 a4 a5 a6 a7 => Or.inr (Or.inr ⟨e, env, m, ta, tb, he, a1, a2, a4, by rw [a3, a5]; exact hE, hk, a6.trans ht, by rw [a6]; exact hT⟩)) (hM.pos hd) ?_
  rw [v_last hH hd hS hM he hk (by decide) (by decide) (by decide) (Or.inl rfl) (Or.inl (by decide))]
  unfold jR_evaluateNext_152 jR_evaluateNext_364
  simp only [sm_wr]
  rw [if_neg (show ¬ nI 6 = 0 by decide), if_neg (show ¬ nI 6 = 1 by decide), if_neg (show ¬ nI 6 = 2 by decide), if_neg (show ¬ nI 6 = 3 by decide), if_neg (show ¬ nI 6 = 4 by decide), if_neg (show ¬ nI 6 = 5 by decide), if_pos (show nI 6 = 6 from rfl), u_pop hM]
  simp only [bo_1]
/-- the failing second part -/
theorem fz (hf : M 18 9 = 1) : (sm_up M 18 9 1) 18 9 = 1 ∧ (sm_up M 18 9 1) 18 8 = M 18 8 ∧ ∀ q, q ≠ 18 → (sm_up M 18 9 1) q = M q := ⟨up_at, up_as (by decide), fun q hq => up_ne hq⟩
theorem v_half (hH : vH nE L B Bm) (hP : vP nE B Bm L D n) (hn : d + 1 + n = 61) (hd : d < 60) (hS : vS nE B Bm L nV nF s TV TF Mc Mm) (hM : vM d e 0 y Mm) (hb : vB d Mm Mb) (he : e < nE) (hk : B 10 e = nI k) (kk : k = 9 ∨ k = 10) (px : exP B e h (B 12 e)) (hT : pT (B 10) (B 11) (B 12) (B 13) (B 14) L m env (xN (B 12) e) (tyP ta tb)) (ht : t = if k = 9 then ta else tb) (hE : vE nF TF x y env) (h1 : nV + c1 ≤ s) (h2 : 3 * nF + c2 ≤ s) : vQ nE B Bm L D c1 c2 nV nF TV TF t d Mb (jV_ofPart (jV_find n) (nI e) x (nI (d + 1)) D Mc) (jR_evaluate_60 1 [] Mm) := by
  have hl := hH.1
  obtain ⟨q1, q2, q3, q4, q5⟩ := hH.2.1 e he
  have ke : ∀ {ρ : Type} {q : Option ρ}, sm_ck (nI e) 40 q = q := ck_nI (by omega) (by decide)
  have ce : (nI e).toNatClampNeg = e := nI_clamp (by omega)
  have hp : tPn k = 1 := by rcases kk with rfl | rfl <;> rfl
  unfold jV_ofPart
  rw [ke, ce, hS.rowC (show 12 < 18 by decide), nI_1]
  refine (v_1st hH hP hn hd hS hM he hk (by omega) (by omega) (by omega) px hT hE h1 h2).bi ?_ ?_
  · intro v nV' nF' s' TV' TF' Mc' Mm' hS' hv htv h22 h20 hB n1 n2 n3 n4 tv tf
    have hM' : vM d e 1 y Mm' := hM.next h20 hB (by rw [up_ne (by decide)]) up_at (by rw [up_ne (by decide)])
    obtain ⟨a, b, ha, hb', c19, c20, m25, c21, m26, hta, htb⟩ := (hS'.2.2.2.1 v hv).pair htv
    have hs5 := hS'.1
    have kv : ∀ {ρ : Type} {q : Option ρ}, sm_ck (nI v) 500 q = q := ck_nI (by omega) (by decide)
    have kv6 : ∀ {ρ : Type} {q : Option ρ}, sm_ck (nI v) 600 q = q := ck_nI (by omega) (by decide)
    have cv : (nI v).toNatClampNeg = v := nI_clamp (by omega)
    have c10 : Mc' 10 e = nI k := by rw [hS'.rowC (by decide)]; exact hk
    have hbB : vB d (vN1 Mm' d) Mb := by
      intro j hj
      obtain ⟨z1, z2, z3, z4⟩ := hB j (by omega)
      obtain ⟨y1, y2, y3, y4⟩ := hb j hj
      unfold vN1
      rw [up_ne (show (18 : Nat) ≠ 20 by decide), up_ne (show (18 : Nat) ≠ 19 by decide), up_ne (show (19 : Nat) ≠ 20 by decide), up_as (show j ≠ d by omega), up_as (show j ≠ d by omega), up_ne (show (20 : Nat) ≠ 19 by decide), up_ne (show (22 : Nat) ≠ 20 by decide), up_ne (show (22 : Nat) ≠ 19 by decide)]
      rw [up_ne (by decide)] at z1 z3 z4
      rw [up_as (by omega)] at z2
      exact ⟨z1.trans y1, z2.trans y2, z3.trans y3, z4.trans y4⟩
    have hSN : vS nE B Bm L nV' nF' s' TV' TF' Mc' (vN1 Mm' d) := hS'.o (fun q _ _ a b _ => by unfold vN1; rw [up_ne b, up_ne a]) (fun j _ _ => by unfold vN1; rw [up_ne (by decide), up_ne (by decide)])
    have hSL : vS nE B Bm L nV' nF' s' TV' TF' Mc' (sm_up (vN1 Mm' d) 1 20 (nI d)) := hSN.o (fun q a _ _ _ _ => up_ne a) (fun j a _ => up_as a)
    have hbL : vB d (sm_up (vN1 Mm' d) 1 20 (nI d)) Mb := fun j hj => by rw [up_ne (by decide), up_ne (by decide), up_ne (by decide), up_ne (by decide)]; exact hbB j hj
    have w22 : sm_up (vN1 Mm' d) 1 20 (nI d) 1 22 = nI v := by rw [up_as (by decide)]; unfold vN1; rw [up_ne (by decide), up_ne (by decide)]; exact h22
    have w25 : sm_up (vN1 Mm' d) 1 20 (nI d) 25 v = nI a := by rw [up_ne (by decide)]; unfold vN1; rw [up_ne (by decide), up_ne (by decide)]; exact m25
    have w26 : sm_up (vN1 Mm' d) 1 20 (nI d) 26 v = nI b := by rw [up_ne (by decide)]; unfold vN1; rw [up_ne (by decide), up_ne (by decide)]; exact m26
    have hj : jR_evaluateNext [] Mm' = some (1, [], sm_up (sm_up (vN1 Mm' d) 1 20 (nI d)) 1 22 (if k = 9 then nI a else nI b)) := by
      have e12 : Mm' 12 e = nI k := by rw [hS'.row (by decide) (by decide), q1]; exact hk
      rw [v_next hd hM'.1 hM'.2.1 (by omega) hM'.2.2.1 e12, v_pnN (by omega) (by decide) (Or.inr (by omega)), bi_some, dq_self, if_pos (show nI 1 = 1 from rfl), v_72N (Or.inl (by omega)) (by omega) (by decide), show (1 : Nat) + 1 = 2 from rfl, show sm_up (sm_up Mm' 19 d (nI 2)) 20 d (sm_up Mm' 19 d (nI 2) 1 22) = vN1 Mm' d by rw [up_ne (show (1 : Nat) ≠ 19 by decide)]; rfl]
      unfold jR_evaluateNext_152 jR_evaluateNext_364
      simp only [sm_wr]
      rw [show vN1 Mm' d 1 20 = nI (d + 1) by unfold vN1; rw [up_ne (by decide), up_ne (by decide)]; exact h20, nI_pred, w22, kv6, kv6, cv, w25, w26]
      rcases kk with rfl | rfl
      · rw [if_neg (show ¬ nI 9 = 0 by decide), if_neg (show ¬ nI 9 = 1 by decide), if_neg (show ¬ nI 9 = 2 by decide), if_neg (show ¬ nI 9 = 3 by decide), if_neg (show ¬ nI 9 = 4 by decide), if_neg (show ¬ nI 9 = 5 by decide), if_neg (show ¬ nI 9 = 6 by decide), if_neg (show ¬ nI 9 = 7 by decide), if_neg (show ¬ nI 9 = 8 by decide), if_pos (show nI 9 = 9 from rfl), bo_1, if_pos (show (9 : Nat) = 9 from rfl)]
      · rw [if_neg (show ¬ nI 10 = 0 by decide), if_neg (show ¬ nI 10 = 1 by decide), if_neg (show ¬ nI 10 = 2 by decide), if_neg (show ¬ nI 10 = 3 by decide), if_neg (show ¬ nI 10 = 4 by decide), if_neg (show ¬ nI 10 = 5 by decide), if_neg (show ¬ nI 10 = 6 by decide), if_neg (show ¬ nI 10 = 7 by decide), if_neg (show ¬ nI 10 = 8 by decide), if_neg (show ¬ nI 10 = 9 by decide), if_pos (show nI 10 = 10 from rfl), bo_1, if_neg (show ¬ (10 : Nat) = 9 by decide)]
    unfold jV_ofPart_70
    rw [dq_self, hS'.2.1.2.2.2, if_pos rfl, kv, kv, kv, cv, c19, if_pos rfl, ke, c10, c20, c21]
    rcases kk with rfl | rfl
    · rw [if_pos rfl] at hj ht
      rw [if_pos (show nI 9 = 9 from rfl)]
      exact (v_lv hSL (by omega) (hta.trans ht.symm) up_at hbL n3 (by omega) (hM'.pos hd) hj).low (Nat.le_refl _) (Nat.le_refl _) n1 n2 tv tf
    · rw [if_neg (by decide)] at hj ht
      rw [if_neg (show ¬ nI 10 = 9 by decide)]
      exact (v_lv hSL (by omega) (htb.trans ht.symm) up_at hbL n3 (by omega) (hM'.pos hd) hj).low (Nat.le_refl _) (Nat.le_refl _) n1 n2 tv tf
  · intro z Mc' hf
    exact ⟨0, Mc', by rw [dq_self, hf, if_neg (by decide)]; rfl, hf, rfl, fun _ _ => rfl⟩
end
