/-! evaluation: choices, calls -/
section
variable {nE : Nat} {B Bm : sm_M} {L : List Ty} {nV nF s : Nat} {TV : Nat → Ty} {TF : Nat → List Ty} {Mc Mm Mc' Mm' M N M1 Mb : sm_M} {D : sm_D} {x y : Int32} {env : List Ty} {d e k ph n c1 c2 m m' h : Nat} {t t' ta tb : Ty}
/-- a frame is left, its answer as it was -/
theorem v_lv0 {v : Nat} (hS : vS nE B Bm L nV nF s TV TF Mc N) (hv : v < nV) (ht : TV v = t) (h22 : N 1 22 = nI v) (h20 : N 1 20 = nI d) (hb : vB d N Mb) (h1 : nV + c1 ≤ s) (h2 : 3 * nF + c2 ≤ s) (h0 : (0 : Int32) < M 1 20) (hn : jR_evaluateNext [] M = some (1, [], N)) : vQ nE B Bm L D c1 c2 nV nF TV TF t d Mb (some (nI v, D, Mc)) (jR_evaluate_60 1 [] M) :=
  Or.inl ⟨v, nV, nF, s, TV, TF, Mc, N, rfl, v_loop h0 hn, hS, ⟨hv, ht, h22, h20⟩, hb, ⟨Nat.le_refl _, Nat.le_refl _, h1, h2⟩, fun _ _ => rfl, fun _ _ => rfl⟩
/-- the last part's answer is the frame's -/
theorem v_tail {jc jr : Option sm_S} (hH : vH nE L B Bm) (hd : d < 60) (he : e < nE) (hk : B 10 e = nI k) (kk : (k = 5 ∧ ph = 2) ∨ (k = 7 ∧ ph = 3)) (hN : N 18 d = nI e ∧ N 19 d = nI ph ∧ N 22 d = y) (hb : vB d N Mb) (h : vQ nE B Bm L D c1 c2 nV nF TV TF t (d + 1) N jc jr) : vQ nE B Bm L D c1 c2 nV nF TV TF t d Mb (sm_bi jc (fun x E M' => sm_dq E D (some (x, D, M')))) jr := by
  refine h.bi ?_ ?_
  · intro v nV' nF' s' TV' TF' Mc' Mm' hS' hv htv h22 h20 hB n1 n2 n3 n4 tv tf
    obtain ⟨z1, z2, z3, z4⟩ := hB d (by omega)
    have hM' : vM d e ph y Mm' := ⟨h20, z1.trans hN.1, z2.trans hN.2.1, z4.trans hN.2.2⟩
    have hb' : vB d Mm' Mb := (hB.less (by omega)).trans (A := Mb) hb
    have hl := hH.1
    obtain ⟨q1, q2, q3, q4, q5⟩ := hH.2.1 e he
    have e12 : Mm' 12 e = nI k := by rw [hS'.row (by decide) (by decide), q1]; exact hk
    rw [dq_self]
    refine (v_lv0 (vL_S (d := d) (ph := ph + 1) hS') hv htv (by rw [vL_1 (by decide)]; exact h22) up_at (vL_B hb') n3 n4 (hM'.pos hd) ?_).low (Nat.le_refl _) (Nat.le_refl _) n1 n2 tv tf
    rcases kk with ⟨rfl, rfl⟩ | ⟨rfl, rfl⟩
    · rw [v_next hd hM'.1 hM'.2.1 (by omega) hM'.2.2.1 e12]
      unfold jR_partNext jR_partNext_61
      rw [if_neg (show ¬ nI 5 = 6 by decide), r_parts (by decide), bi_some, dq_self, if_pos (show nI 2 < nI (tPn 5) by decide), if_pos (show nI 5 = 5 from rfl), if_pos (show (0 : Int32) < nI 2 by decide), if_neg (show ¬ nI 2 = 1 by decide), bi_some, dq_self, if_neg (show ¬ nI 2 = 1 by decide), v_72N (Or.inl (by decide)) (by decide) (by decide)]
      unfold jR_evaluateNext_152 jR_evaluateNext_364
      simp only [sm_wr]
      rw [if_neg (show ¬ nI 5 = 0 by decide), if_neg (show ¬ nI 5 = 1 by decide), if_neg (show ¬ nI 5 = 2 by decide), if_neg (show ¬ nI 5 = 3 by decide), if_neg (show ¬ nI 5 = 4 by decide), if_pos (show nI 5 = 5 from rfl), u_pop hM', bo_1]
    · rw [v_last hH hd hS' hM' he hk (by decide) (by decide) (by decide) (Or.inr (by decide)) (Or.inr (by decide))]
      unfold jR_evaluateNext_152 jR_evaluateNext_364
      simp only [sm_wr]
      rw [if_neg (show ¬ nI 7 = 0 by decide), if_neg (show ¬ nI 7 = 1 by decide), if_neg (show ¬ nI 7 = 2 by decide), if_neg (show ¬ nI 7 = 3 by decide), if_neg (show ¬ nI 7 = 4 by decide), if_neg (show ¬ nI 7 = 5 by decide), if_neg (show ¬ nI 7 = 6 by decide), if_pos (show nI 7 = 7 from rfl), u_pop hM', bo_1]
  · intro z M hf
    exact ⟨z, M, by rw [dq_self], hf, rfl, fun _ _ => rfl⟩
theorem v_choice (hH : vH nE L B Bm) (hP : vP nE B Bm L D n) (hn : d + 1 + n = 61) (hd : d < 60) (hS : vS nE B Bm L nV nF s TV TF Mc Mm) (hM : vM d e 0 y Mm) (hb : vB d Mm Mb) (he : e < nE) (hk : B 10 e = nI 5) (px : exP B e h (B 12 e)) (py : exP B e h (B 13 e)) (pz : exP B e h (B 14 e)) (hT : pT (B 10) (B 11) (B 12) (B 13) (B 14) L m env (xN (B 12) e) tyN) (hT' : pT (B 10) (B 11) (B 12) (B 13) (B 14) L m env (xN (B 13) e) t) (hT2 : pT (B 10) (B 11) (B 12) (B 13) (B 14) L m env (xN (B 14) e) t) (hE : vE nF TF x y env) (h1 : nV + c1 ≤ s) (h2 : 3 * nF + c2 ≤ s) : vQ nE B Bm L D c1 (c2 + 1) nV nF TV TF t d Mb (jV_ofChoice (jV_find n) (nI e) x (nI (d + 1)) D Mc) (jR_evaluate_60 1 [] Mm) := by
  have hl := hH.1
  obtain ⟨q1, q2, q3, q4, q5⟩ := hH.2.1 e he
  have ke : ∀ {ρ : Type} {q : Option ρ}, sm_ck (nI e) 40 q = q := ck_nI (by omega) (by decide)
  have ce : (nI e).toNatClampNeg = e := nI_clamp (by omega)
  obtain ⟨py1, py2⟩ := v_pt hH he py
  obtain ⟨pz1, pz2⟩ := v_pt hH he pz
  unfold jV_ofChoice jV_ofChoice_59
  simp only [ke, ce, nI_1]
  rw [hS.rowC (show 12 < 18 by decide)]
  refine (v_1st hH hP hn hd hS hM he hk (by omega) (by omega) (by decide) px hT hE h1 h2).bi ?_ ?_
  · intro v nV' nF' s' TV' TF' Mc' Mm' hS' hv htv h22 h20 hB n1 n2 n3 n4 tv tf
    have hM' : vM d e 1 y Mm' := hM.next h20 hB u19_18 up_at u19_22
    have hb' := hB.part hb
    obtain ⟨-, r25⟩ := (hS'.2.2.2.1 v hv).num htv
    have hs5 := hS'.1
    have kv : ∀ {ρ : Type} {q : Option ρ}, sm_ck (nI v) 500 q = q := ck_nI (by omega) (by decide)
    have kv6 : ∀ {ρ : Type} {q : Option ρ}, sm_ck (nI v) 600 q = q := ck_nI (by omega) (by decide)
    have cv : (nI v).toNatClampNeg = v := nI_clamp (by omega)
    have e12 : Mm' 12 e = nI 5 := by rw [hS'.row (by decide) (by decide), q1]; exact hk
    have hSN : vS nE B Bm L nV' nF' s' TV' TF' Mc' (vN1 Mm' d) := hS'.o (fun q _ _ a b _ => by unfold vN1; rw [up_ne b, up_ne a]) (fun j _ _ => by unfold vN1; rw [up_ne (by decide), up_ne (by decide)])
    have hS19 : vS nE B Bm L nV' nF' s' TV' TF' Mc' (sm_up Mm' 19 d (nI 2)) := hS'.o (fun q _ _ a b _ => up_ne a) (fun j _ _ => by rw [up_ne (by decide)])
    have hN : vN1 Mm' d 18 d = nI e ∧ vN1 Mm' d 19 d = nI 2 ∧ vN1 Mm' d 22 d = y := ⟨by rw [vN1_18]; exact hM'.2.1, vN1_19, by rw [vN1_22]; exact hM'.2.2.2⟩
    have hN20 : vN1 Mm' d 1 20 = nI (d + 1) := by unfold vN1; rw [up_ne (by decide), up_ne (by decide)]; exact h20
    have hj : jR_evaluateNext [] Mm' = if Mc' 20 v = 0 then sm_bi (jR_step (B 13 e) y [] (vN1 Mm' d)) (fun x E M => sm_dq E [] (sm_bo x (some (x, [], M)))) else sm_bi (jR_step (B 14 e) y [] (vN1 Mm' d)) (fun x E M => sm_dq E [] (sm_bo x (some (x, [], M)))) := by
      rw [v_next hd hM'.1 hM'.2.1 (by omega) hM'.2.2.1 e12]
      unfold jR_partNext jR_partNext_61
      rw [if_neg (show ¬ nI 5 = 6 by decide), r_parts (by decide), bi_some, dq_self, if_pos (show nI 1 < nI (tPn 5) by decide), if_pos (show nI 5 = 5 from rfl), if_pos (show (0 : Int32) < nI 1 by decide), if_pos (show nI 1 = 1 from rfl), show (1 : Nat) + 1 = 2 from rfl, up_ne (show (1 : Nat) ≠ 19 by decide), h22, kv6, cv, up_ne (show (25 : Nat) ≠ 19 by decide), r25, ke, ke, ce, hS19.row (show 2 ≤ 15 by decide) (by decide), hS19.row (show 2 ≤ 16 by decide) (by decide), q4, q5, hM'.2.2.2]
      have ez : sm_up (sm_up Mm' 19 d (nI 2)) 20 d (sm_up Mm' 19 d (nI 2) 1 22) = vN1 Mm' d := by rw [up_ne (show (1 : Nat) ≠ 19 by decide)]; rfl
      by_cases g : Mc' 20 v = 0
      · rw [if_pos g, if_pos g, bi_some, dq_self, if_pos (show nI 1 = 1 from rfl), ez, py1, v_72 (by omega)]
      · rw [if_neg g, if_neg g, bi_some, dq_self, if_pos (show nI 1 = 1 from rfl), ez, pz1, v_72 (by omega)]
    rw [dq_self, hS'.2.1.2.2.2, if_pos rfl, kv, cv, hS'.rowC (show 13 < 18 by decide), hS'.rowC (show 14 < 18 by decide)]
    by_cases g : Mc' 20 v = 0
    · rw [if_pos g] at hj
      rw [if_pos g, py1]
      rw [py1] at hj
      exact (v_tail hH hd he hk (Or.inl ⟨rfl, rfl⟩) hN (vN1_B hb') ((v_part hP hn hd hSN (hM'.pos hd) hN20 py2 hT' (hE.mono n2 tf) n3 n4 hj).low (Nat.le_refl _) (by omega) (Nat.le_refl _) (Nat.le_refl _) (fun _ _ => rfl) (fun _ _ => rfl))).low (Nat.le_refl _) (Nat.le_refl _) n1 n2 tv tf
    · rw [if_neg g] at hj
      rw [if_neg g, pz1]
      rw [pz1] at hj
      exact (v_tail hH hd he hk (Or.inl ⟨rfl, rfl⟩) hN (vN1_B hb') ((v_part hP hn hd hSN (hM'.pos hd) hN20 pz2 hT2 (hE.mono n2 tf) n3 n4 hj).low (Nat.le_refl _) (by omega) (Nat.le_refl _) (Nat.le_refl _) (fun _ _ => rfl) (fun _ _ => rfl))).low (Nat.le_refl _) (Nat.le_refl _) n1 n2 tv tf
  · intro z M hf
    exact ⟨0, M, by rw [dq_self, hf, if_neg (by decide)], hf, rfl, fun _ _ => rfl⟩
theorem v_call (hH : vH nE L B Bm) (hP : vP nE B Bm L D n) (hn : d + 1 + n = 61) (hd : d < 60) (hS : vS nE B Bm L nV nF s TV TF Mc Mm) (hM : vM d e 0 y Mm) (hb : vB d Mm Mb) (he : e < nE) (hk : B 10 e = nI 7) (px : exP B e h (B 12 e)) (py : exP B e h (B 13 e)) (hT : pT (B 10) (B 11) (B 12) (B 13) (B 14) L m env (xN (B 12) e) (tyF ta t)) (hT' : pT (B 10) (B 11) (B 12) (B 13) (B 14) L m' env (xN (B 13) e) ta) (hE : vE nF TF x y env) (h1 : nV + (c1 + 1) ≤ s) (h2 : 3 * nF + (c2 + 1) ≤ s) : vQ nE B Bm L D c1 (c2 + 1) nV nF TV TF t d Mb (jV_ofCall (jV_find n) (nI e) x (nI (d + 1)) D Mc) (jR_evaluate_60 1 [] Mm) := by
  have hl := hH.1
  obtain ⟨q1, q2, q3, q4, q5⟩ := hH.2.1 e he
  have ke : ∀ {ρ : Type} {q : Option ρ}, sm_ck (nI e) 40 q = q := ck_nI (by omega) (by decide)
  have ce : (nI e).toNatClampNeg = e := nI_clamp (by omega)
  unfold jV_ofCall jV_ofCall_66
  simp only [ke, ce, nI_1, sm_wr]
  rw [hS.rowC (show 12 < 18 by decide)]
  refine v_xy (f := fun x1 x2 M2 => if (M2 18 9) = (0 : Int32) then (sm_ck x1 500 (if (M2 19 (Int32.toNatClampNeg x1)) = (2 : Int32) then (if (M2 18 7) = (166 : Int32) then (some (0, D, M2)) else (sm_ck (M2 18 7) 166 (sm_ck (M2 18 7) 166 (sm_ck x1 500 (sm_ck (sm_up (sm_up (sm_up M2 18 7 (M2 18 7 + 1)) 22 (Int32.toNatClampNeg (M2 18 7)) x1) 23 (Int32.toNatClampNeg (M2 18 7)) x2 20 (Int32.toNatClampNeg x1)) 40 (sm_bi (jV_find n (sm_up (sm_up (sm_up M2 18 7 (M2 18 7 + 1)) 22 (Int32.toNatClampNeg (M2 18 7)) x1) 23 (Int32.toNatClampNeg (M2 18 7)) x2 12 (Int32.toNatClampNeg (sm_up (sm_up (sm_up M2 18 7 (M2 18 7 + 1)) 22 (Int32.toNatClampNeg (M2 18 7)) x1) 23 (Int32.toNatClampNeg (M2 18 7)) x2 20 (Int32.toNatClampNeg x1)))) (M2 18 7) (nI (d + 1 + 1)) D (sm_up (sm_up (sm_up M2 18 7 (M2 18 7 + 1)) 22 (Int32.toNatClampNeg (M2 18 7)) x1) 23 (Int32.toNatClampNeg (M2 18 7)) x2)) (fun x6 E6 M6 => sm_dq E6 D (some (x6, D, M6))))))))) else (some (0, D, M2)))) else (some (0, D, M2))) hH hP hn hd hS hM hb he hk (by omega) px py hT hT' hE h1 h2 ?_ (fun v w M hf => by rw [hf]; exact if_neg (by decide))
  intro v w nV' nF' s' TV' TF' Mc' Mm' hS' hv htv hw htw h22 h20 hM' hb' n1 n2 n3 n4
  obtain ⟨e', env', m2, he', c19, c20, m25, hE', hB6, hT6⟩ := (hS'.2.2.2.1 v hv).fn htv
  have hs5 := hS'.1
  have kv : ∀ {ρ : Type} {q : Option ρ}, sm_ck (nI v) 500 q = q := ck_nI (by omega) (by decide)
  have kv6 : ∀ {ρ : Type} {q : Option ρ}, sm_ck (nI v) 600 q = q := ck_nI (by omega) (by decide)
  have kd : ∀ {ρ : Type} {q : Option ρ}, sm_ck (nI d) 64 q = q := ck_nI (by omega) (by decide)
  have kf : ∀ {ρ : Type} {q : Option ρ}, sm_ck (nI nF') 166 q = q := ck_nI (by omega) (by decide)
  have ke' : ∀ {ρ : Type} {q : Option ρ}, sm_ck (nI e') 40 q = q := ck_nI (by omega) (by decide)
  have cv : (nI v).toNatClampNeg = v := nI_clamp (by omega)
  have cd : (nI d).toNatClampNeg = d := nI_clamp (by omega)
  have cf : (nI nF').toNatClampNeg = nF' := nI_clamp (by omega)
  have ce' : (nI e').toNatClampNeg = e' := nI_clamp (by omega)
  have nf : ¬ nI nF' = (166 : Int32) := fun q => by
    have := nI_inj (by omega) (by decide) (show nI nF' = nI 166 from q)
    omega
  obtain ⟨k6, h6, k610, w10, -, -, -, px6, -⟩ := hH.2.2 e' he'
  have k66 : k6 = 6 := nI_inj (by omega) (by omega) (w10.symm.trans hB6)
  subst k66
  obtain ⟨p61, p62⟩ := v_pt hH he' (px6 (by decide))
  have hS0 : vS nE B Bm L nV' nF' s' TV' TF' Mc' (sm_up Mm' 19 d (nI 3)) := hS'.o (fun q _ _ a b _ => up_ne a) (fun j _ _ => by rw [up_ne (by decide)])
  obtain ⟨Ma, Mb2, b1, b2, hS2, o1, o2⟩ := v_bind hS0 (by omega) hv hw (by rw [up_ne (by decide)]; exact hE')
  rw [up_ne (show (26 : Nat) ≠ 19 by decide)] at b1
  have r20 : Mb2 20 d = nI v := by rw [o1 20 (by decide) (by decide), up_ne (by decide)]; exact h20
  have r25 : Mb2 25 v = nI e' := by rw [o1 25 (by decide) (by decide), up_ne (by decide)]; exact m25
  have r14 : Mb2 14 e' = B 12 e' := by rw [hS2.row (by decide) (by decide)]; exact (hH.2.1 e' he').2.2.1
  have e12 : Mm' 12 e = nI 7 := by rw [hS'.row (by decide) (by decide), q1]; exact hk
  have hj : jR_evaluateNext [] Mm' = sm_bi (jR_step (nI (xN (B 12) e')) (nI (2 * nF' + 1)) [] Mb2) (fun x E M => sm_dq E [] (sm_bo x (some (x, [], M)))) := by
    rw [v_next hd hM'.1 hM'.2.1 (by omega) hM'.2.2.1 e12, v_pnN (by decide) (by decide) (Or.inr (by decide)), bi_some, dq_self, if_neg (show ¬ nI 2 = 1 by decide)]
    unfold jR_evaluateNext_72
    rw [if_pos (show (-1 : Int32) < 0 by decide), if_pos (show nI 7 = 7 from rfl), if_pos (show nI 2 = 2 from rfl), show (2 : Nat) + 1 = 3 from rfl, up_ne (show (20 : Nat) ≠ 19 by decide), up_ne (show (26 : Nat) ≠ 19 by decide), up_ne (show (1 : Nat) ≠ 19 by decide)]
    simp only [kd, cd, h20, h22, kv6, cv]
    rw [b1, bi_some, dq_self, b2, bi_some, dq_self, r20, kv6, cv, r25, ke', ce', r14, p61]
  have e20 : sm_up (sm_up (sm_up Mc' 18 7 (nI (nF' + 1))) 22 nF' (nI v)) 23 nF' (nI w) 20 v = nI e' := by rw [up_ne (by decide), up_ne (by decide), up_ne (by decide)]; exact c20
  have e12' : sm_up (sm_up (sm_up Mc' 18 7 (nI (nF' + 1))) 22 nF' (nI v)) 23 nF' (nI w) 12 e' = nI (xN (B 12) e') := by rw [hS2.rowC (by decide)]; exact p61
  show vQ nE B Bm L D c1 (c2 + 1) nV' nF' TV' TF' t d Mb (if (Mc' 18 9) = (0 : Int32) then _ else _) _
  rw [hS'.2.1.2.2.2, if_pos rfl, kv, cv, c19, if_pos rfl, hS'.2.1.2.1, if_neg nf, kf, kf, kv, cf, nI_1, e20, ke', ce', e12']
  have g20 : Mb2 1 20 = nI (d + 1) := by rw [o2 20 (by decide), up_ne (by decide)]; exact hM'.1
  have hEn : vE (nF' + 1) (fun f => if f = nF' then TV' w :: TV' v :: env' else TF' f) (nI nF') (nI (2 * nF' + 1)) (ta :: TV' v :: env') := Or.inr ⟨nF', Nat.lt_succ_self _, rfl, rfl, by rw [← htw]; exact (if_pos rfl).symm⟩
  have hN : Mb2 18 d = nI e ∧ Mb2 19 d = nI 3 ∧ Mb2 22 d = y := ⟨by rw [o1 18 (by decide) (by decide), up_ne (by decide)]; exact hM'.2.1, by rw [o1 19 (by decide) (by decide), up_at], by rw [o1 22 (by decide) (by decide), up_ne (by decide)]; exact hM'.2.2.2⟩
  have hbN : vB d Mb2 Mb := fun j hj => by
    rw [o1 18 (by decide) (by decide), o1 19 (by decide) (by decide), o1 20 (by decide) (by decide), o1 22 (by decide) (by decide), up_ne (show (18 : Nat) ≠ 19 by decide), up_ne (show (20 : Nat) ≠ 19 by decide), up_ne (show (22 : Nat) ≠ 19 by decide), up_as (by omega)]
    exact hb' j hj
  exact (v_tail hH hd he hk (Or.inr ⟨rfl, rfl⟩) hN hbN (v_part (c1 := c1) (c2 := c2) hP hn hd hS2 (hM'.pos hd) g20 p62 hT6 hEn (by omega) (by omega) hj)).low (Nat.le_refl _) (Nat.le_refl _) (Nat.le_refl _) (by omega) (fun _ _ => rfl) (fun g hg => if_neg (by omega))
end
