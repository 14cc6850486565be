/-! evaluation: two parts, choices, calls -/
section
variable {nE : Nat} {B Bm : sm_M} {L : List Ty} {nV nF s : Nat} {TV : Nat → Ty} {TF : Nat → List Ty} {Mc Mm Mc' Mm' M N M1 Mb : sm_M} {D : sm_D} {x y : Int32} {env : List Ty} {d e k ph n c1 c2 m m' h : Nat} {t t' ta tb : Ty}
theorem vB.part {v : Int32} (hB : vB (d + 1) Mm' (sm_up Mm 19 d v)) (hb : vB d Mm Mb) : vB d Mm' Mb := by
  intro j hj
  obtain ⟨z1, z2, z3, z4⟩ := hB j (by omega)
  obtain ⟨y1, y2, y3, y4⟩ := hb j hj
  rw [up_ne (by decide)] at z1 z3 z4
  rw [up_as (by omega)] at z2
  exact ⟨z1.trans y1, z2.trans y2, z3.trans y3, z4.trans y4⟩
theorem vN1_B (hb : vB d Mm Mb) : vB d (vN1 Mm d) Mb := by
  intro j hj
  unfold vN1
  rw [up_ne (show (18 : Nat) ≠ 20 by decide), up_ne (show (18 : Nat) ≠ 19 by decide), up_ne (show (19 : Nat) ≠ 20 by decide), up_as (show j ≠ d by omega), up_as (show j ≠ d by omega), up_ne (show (20 : Nat) ≠ 19 by decide), up_ne (show (22 : Nat) ≠ 20 by decide), up_ne (show (22 : Nat) ≠ 19 by decide)]
  exact hb j hj
theorem vB.part2 (hB : vB (d + 1) Mm' (vN1 Mm d)) (hb : vB d Mm Mb) : vB d Mm' Mb := (hB.less (by omega)).trans (A := Mb) (vN1_B hb)
theorem vN1_18 : vN1 Mm d 18 d = Mm 18 d := by unfold vN1; rw [up_ne (by decide), up_ne (by decide)]
theorem vN1_19 : vN1 Mm d 19 d = nI 2 := by unfold vN1; rw [up_ne (by decide), up_at]
theorem vN1_20 : vN1 Mm d 20 d = Mm 1 22 := by unfold vN1; rw [up_at]
theorem vN1_22 : vN1 Mm d 22 d = Mm 22 d := by unfold vN1; rw [up_ne (by decide), up_ne (by decide)]
theorem u19_18 {v : Int32} : sm_up Mm 19 d v 18 d = Mm 18 d := by rw [up_ne (by decide)]
theorem u19_22 {v : Int32} : sm_up Mm 19 d v 22 d = Mm 22 d := by rw [up_ne (by decide)]
/-- two parts, then what f makes of them -/
theorem v_xy (hH : vH nE L B Bm) (hP : vP nE B Bm L D n) (hn : d + 1 + n = 61) (hd : d < 60) (hS : vS nE B Bm L nV nF s TV TF Mc Mm) (hM : vM d e 0 y Mm) (hb : vB d Mm Mb) (he : e < nE) (hk : B 10 e = nI k) (kk : k = 2 ∨ k = 3 ∨ k = 4 ∨ k = 7 ∨ k = 8) (px : exP B e h (B 12 e)) (py : exP B e h (B 13 e)) (hT : pT (B 10) (B 11) (B 12) (B 13) (B 14) L m env (xN (B 12) e) ta) (hT' : pT (B 10) (B 11) (B 12) (B 13) (B 14) L m' env (xN (B 13) e) tb) (hE : vE nF TF x y env) (h1 : nV + (c1 + 1) ≤ s) (h2 : 3 * nF + (c2 + 1) ≤ s) {f : Int32 → Int32 → sm_M → Option sm_S}
    (hs : ∀ (v w nV' nF' s' : Nat) (TV' : Nat → Ty) (TF' : Nat → List Ty) (Mc' Mm' : sm_M), vS nE B Bm L nV' nF' s' TV' TF' Mc' Mm' → v < nV' → TV' v = ta → w < nV' → TV' w = tb → Mm' 1 22 = nI w → Mm' 20 d = nI v → vM d e 2 y Mm' → vB d Mm' Mb → nV ≤ nV' → nF ≤ nF' → nV' + (c1 + 1) ≤ s' → 3 * nF' + (c2 + 3) ≤ s' → vQ nE B Bm L D c1 (c2 + 1) nV' nF' TV' TF' t d Mb (f (nI v) (nI w) Mc') (jR_evaluate_60 1 [] Mm'))
    (hf : ∀ (v w : Int32) (M : sm_M), M 18 9 = 1 → f v w M = some (0, D, M)) : vQ nE B Bm L D c1 (c2 + 1) nV nF TV TF t d Mb (sm_bi (jV_find n (B 12 e) x (nI (d + 1 + 1)) D Mc) (fun x1 E1 M1 => sm_dq E1 D (sm_bi (jV_find n (M1 13 e) x (nI (d + 1 + 1)) D M1) (fun x2 E2 M2 => sm_dq E2 D (f x1 x2 M2))))) (jR_evaluate_60 1 [] Mm) := by
  have hp : tPn k = 2 := by rcases kk with rfl | rfl | rfl | rfl | rfl <;> rfl
  obtain ⟨py1, py2⟩ := v_pt hH he py
  refine (v_1st hH hP hn hd hS hM he hk (by omega) (by omega) (by omega) px hT hE h1 h2).bi ?_ ?_
  · intro v nV1 nF1 s1 TV1 TF1 Mc1 Mm1 hS1 hv htv h22 h20 hB n1 n2 n3 n4 tv tf
    have hM1 : vM d e 1 y Mm1 := hM.next h20 hB u19_18 up_at u19_22
    have hb1 := hB.part hb
    rw [dq_self, hS1.rowC (show 13 < 18 by decide)]
    refine ((v_2nd (c1 := c1 + 1) (c2 := c2 + 1 + 1) hH hP hn hd hS1 hM1 he hk (by omega) (by omega) (by omega) (by omega) py hT' (hE.mono n2 tf) n3 n4).bi (c1' := c1) (c2' := c2 + 1) (t := t) (d := d) (Mb := Mb) ?_ ?_).low (Nat.le_refl _) (Nat.le_refl _) n1 n2 tv tf
    · intro w nV2 nF2 s2 TV2 TF2 Mc2 Mm2 hS2 hw htw g22 g20 hB2 k1 k2 k3 k4 tv2 tf2
      have hM2 : vM d e 2 y Mm2 := hM1.next g20 hB2 vN1_18 vN1_19 vN1_22
      have e20 : Mm2 20 d = nI v := by rw [(hB2 d (by omega)).2.2.1, vN1_20]; exact h22
      rw [dq_self]
      exact (hs v w nV2 nF2 s2 TV2 TF2 Mc2 Mm2 hS2 (by omega) ((tv2 v hv).trans htv) hw htw g22 e20 hM2 (hB2.part2 hb1) (by omega) (by omega) k3 (by omega)).low (Nat.le_refl _) (Nat.le_refl _) k1 k2 tv2 tf2
    · intro z M hfM
      exact ⟨0, M, by rw [dq_self, hf _ _ _ hfM], hfM, rfl, fun _ _ => rfl⟩
  · intro z M hfM
    obtain ⟨f1, f2, f3⟩ := fz hfM
    by_cases hx : ∃ e', M 13 e = nI e'
    · obtain ⟨e', hx⟩ := hx
      exact ⟨0, sm_up M 18 9 1, by rw [dq_self, hx, f_fail hfM (by omega), bi_some, dq_self, hf _ _ _ f1], f1, f2, f3⟩
    · exact ⟨0, sm_up M 18 9 1, by
        rw [dq_self]
        obtain ⟨n', rfl⟩ : ∃ n', n = n' + 1 := ⟨n - 1, by omega⟩
        show sm_bi (jV_find0 (jV_find n') (M 13 e) x (nI (d + 1 + 1)) D M) _ = _
        unfold jV_find0 jV_find_23
        rw [hfM, if_neg (by decide), bo_1]
        show sm_dq D D (f z 0 (sm_up M 18 9 1)) = _
        rw [dq_self, hf _ _ _ f1], f1, f2, f3⟩
theorem v_two (hH : vH nE L B Bm) (hP : vP nE B Bm L D n) (hn : d + 1 + n = 61) (hd : d < 60) (hS : vS nE B Bm L nV nF s TV TF Mc Mm) (hM : vM d e 0 y Mm) (hb : vB d Mm Mb) (he : e < nE) (hk : B 10 e = nI k) (kk : ((k = 2 ∨ k = 3 ∨ k = 4) ∧ ta = tyN ∧ tb = tyN ∧ t = tyN) ∨ (k = 8 ∧ t = tyP ta tb)) (px : exP B e h (B 12 e)) (py : exP B e h (B 13 e)) (hT : pT (B 10) (B 11) (B 12) (B 13) (B 14) L m env (xN (B 12) e) ta) (hT' : pT (B 10) (B 11) (B 12) (B 13) (B 14) L m' env (xN (B 13) e) tb) (hE : vE nF TF x y env) (h1 : nV + (c1 + 1) ≤ s) (h2 : 3 * nF + (c2 + 1) ≤ s) : vQ nE B Bm L D c1 (c2 + 1) nV nF TV TF t d Mb (jV_ofTwo (jV_find n) (nI e) x (nI (d + 1)) D Mc) (jR_evaluate_60 1 [] Mm) := by
  have hl := hH.1
  obtain ⟨q1, q2, q3, q4, q5⟩ := hH.2.1 e he
  have ke : ∀ {ρ : Type} {q : Option ρ}, sm_ck (nI e) 40 q = q := ck_nI (by omega) (by decide)
  have ce : (nI e).toNatClampNeg = e := nI_clamp (by omega)
  unfold jV_ofTwo
  simp only [ke, ce, nI_1]
  rw [hS.rowC (show 12 < 18 by decide)]
  refine v_xy (f := fun x1 x2 M2 => if (M2 18 9) = (0 : Int32) then (if (M2 10 e) = (2 : Int32) then (sm_ck x1 500 (sm_ck x2 500 (sm_bi (jV_value (0 : Int32) ((M2 20 (Int32.toNatClampNeg x1)) + (M2 20 (Int32.toNatClampNeg x2))) (0 : Int32) D M2) (fun x6 E6 M6 => sm_dq E6 D (some (x6, D, M6)))))) else (if (M2 10 e) = (3 : Int32) then (sm_ck x1 500 (sm_ck x2 500 (sm_bi (jV_value (0 : Int32) ((M2 20 (Int32.toNatClampNeg x1)) - (M2 20 (Int32.toNatClampNeg x2))) (0 : Int32) D M2) (fun x5 E5 M5 => sm_dq E5 D (some (x5, D, M5)))))) else (if (M2 10 e) = (4 : Int32) then (sm_ck x1 500 (sm_ck x2 500 (sm_bi (jV_value (0 : Int32) ((M2 20 (Int32.toNatClampNeg x1)) * (M2 20 (Int32.toNatClampNeg x2))) (0 : Int32) D M2) (fun x4 E4 M4 => sm_dq E4 D (some (x4, D, M4)))))) else (sm_bi (jV_value (1 : Int32) x1 x2 D M2) (fun x3 E3 M3 => sm_dq E3 D (some (x3, D, M3))))))) else (some ((0 : Int32), D, M2))) hH hP hn hd hS hM hb he hk (by omega) px py hT hT' hE h1 h2 ?_ (fun v w M hf => by rw [hf]; exact if_neg (by decide))
  intro v w nV' nF' s' TV' TF' Mc' Mm' hS' hv htv hw htw h22 h20 hM' hb' n1 n2 n3 n4
  have hs5 := hS'.1
  have kv : ∀ {ρ : Type} {q : Option ρ}, sm_ck (nI v) 500 q = q := ck_nI (by omega) (by decide)
  have kw : ∀ {ρ : Type} {q : Option ρ}, sm_ck (nI w) 500 q = q := ck_nI (by omega) (by decide)
  have kv6 : ∀ {ρ : Type} {q : Option ρ}, sm_ck (nI v) 600 q = q := ck_nI (by omega) (by decide)
  have kw6 : ∀ {ρ : Type} {q : Option ρ}, sm_ck (nI w) 600 q = q := ck_nI (by omega) (by decide)
  have kd : ∀ {ρ : Type} {q : Option ρ}, sm_ck (nI d) 64 q = q := ck_nI (by omega) (by decide)
  have cv : (nI v).toNatClampNeg = v := nI_clamp (by omega)
  have cw : (nI w).toNatClampNeg = w := nI_clamp (by omega)
  have cd : (nI d).toNatClampNeg = d := nI_clamp (by omega)
  have c10 : Mc' 10 e = nI k := by rw [hS'.rowC (by decide)]; exact hk
  have hSL := vL_S (d := d) (ph := 3) hS'
  have w22 : vL Mm' d 3 1 22 = nI w := by rw [vL_1 (by decide)]; exact h22
  have w20 : vL Mm' d 3 20 d = nI v := by rw [vL_o (by decide) (by decide)]; exact h20
  show vQ nE B Bm L D c1 (c2 + 1) nV' nF' TV' TF' t d Mb (if (Mc' 18 9) = (0 : Int32) then _ else _) _
  rw [hS'.2.1.2.2.2, if_pos rfl, c10, cv, cw, kv, kv, kv, kw, kw, kw]
  have hj := fun (h7 : k ≠ 7) (p2 : tPn k ≤ 2) (k10 : k ≤ 10) => v_last hH hd hS' hM' he hk k10 (by decide) (by decide) (Or.inr p2) (Or.inl h7)
  rcases kk with ⟨kk, rfl, rfl, rfl⟩ | ⟨rfl, rfl⟩
  · obtain ⟨-, r1⟩ := (hS'.2.2.2.1 v hv).num htv
    obtain ⟨-, r2⟩ := (hS'.2.2.2.1 w hw).num htw
    have w25 : vL Mm' d 3 25 = Mm' 25 := vL_o (by decide) (by decide)
    rcases kk with rfl | rfl | rfl
    · rw [if_pos (show nI 2 = 2 from rfl)]
      refine v_lvN (k' := 0) (a' := Mm' 25 v + Mm' 25 w) (b' := 0) hSL up_at (vL_B hb') (by omega) (by omega) (fun Mc2 Mm2 TV2 a1 a2 a3 a4 a5 a6 a7 => Or.inl ⟨a1, by rw [a4, a2, r1, r2], a6⟩) (hM'.pos hd) ?_
      rw [hj (by decide) (by decide) (by decide)]
      unfold jR_evaluateNext_152 jR_evaluateNext_257 jR_result jR_result_25 jR_evaluateNext_364
      simp only [sm_wr]
      rw [if_neg (show ¬ nI 2 = 0 by decide), if_neg (show ¬ nI 2 = 1 by decide), if_pos (show nI 2 = 2 from rfl), if_pos (show nI 2 = 2 from rfl), show (2 : Nat) + 1 = 3 from rfl, u_pop hM', kd, cd, w20, kv6, cv, w22, kw6, cw, w25, bi_some, dq_self]
      simp only [bo_1]
    · rw [if_neg (show ¬ nI 3 = 2 by decide), if_pos (show nI 3 = 3 from rfl)]
      refine v_lvN (k' := 0) (a' := Mm' 25 v - Mm' 25 w) (b' := 0) hSL up_at (vL_B hb') (by omega) (by omega) (fun Mc2 Mm2 TV2 a1 a2 a3 a4 a5 a6 a7 => Or.inl ⟨a1, by rw [a4, a2, r1, r2], a6⟩) (hM'.pos hd) ?_
      rw [hj (by decide) (by decide) (by decide)]
      unfold jR_evaluateNext_152 jR_evaluateNext_257 jR_result jR_result_25 jR_evaluateNext_364
      simp only [sm_wr]
      rw [if_neg (show ¬ nI 3 = 0 by decide), if_neg (show ¬ nI 3 = 1 by decide), if_neg (show ¬ nI 3 = 2 by decide), if_neg (show ¬ nI 3 = 2 by decide), if_pos (show nI 3 = 3 from rfl), if_pos (show nI 3 = 3 from rfl), show (2 : Nat) + 1 = 3 from rfl, u_pop hM', kd, cd, w20, kv6, cv, w22, kw6, cw, w25, bi_some, dq_self]
      simp only [bo_1]
    · rw [if_neg (show ¬ nI 4 = 2 by decide), if_neg (show ¬ nI 4 = 3 by decide), if_pos (show nI 4 = 4 from rfl)]
      refine v_lvN (k' := 0) (a' := Mm' 25 v * Mm' 25 w) (b' := 0) hSL up_at (vL_B hb') (by omega) (by omega) (fun Mc2 Mm2 TV2 a1 a2 a3 a4 a5 a6 a7 => Or.inl ⟨a1, by rw [a4, a2, r1, r2], a6⟩) (hM'.pos hd) ?_
      rw [hj (by decide) (by decide) (by decide)]
      unfold jR_evaluateNext_152 jR_evaluateNext_257 jR_result jR_result_25 jR_evaluateNext_364
      simp only [sm_wr]
      rw [if_neg (show ¬ nI 4 = 0 by decide), if_neg (show ¬ nI 4 = 1 by decide), if_neg (show ¬ nI 4 = 2 by decide), if_neg (show ¬ nI 4 = 2 by decide), if_neg (show ¬ nI 4 = 3 by decide), if_neg (show ¬ nI 4 = 3 by decide), if_pos (show nI 4 = 4 from rfl), show (2 : Nat) + 1 = 3 from rfl, u_pop hM', kd, cd, w20, kv6, cv, w22, kw6, cw, w25, bi_some, dq_self]
      simp only [bo_1]
  · rw [if_neg (show ¬ nI 8 = 2 by decide), if_neg (show ¬ nI 8 = 3 by decide), if_neg (show ¬ nI 8 = 4 by decide)]
    refine v_lvN (k' := 1) (a' := nI v) (b' := nI w) hSL up_at (vL_B hb') (by omega) (by omega) (fun Mc2 Mm2 TV2 a1 a2 a3 a4 a5 a6 a7 => Or.inr (Or.inl ⟨v, w, hv, hw, a1, a2, a4, a3, a5, by rw [a6, a7 v hv, a7 w hw, htv, htw]⟩)) (hM'.pos hd) ?_
    rw [hj (by decide) (by decide) (by decide)]
    unfold jR_evaluateNext_152 jR_evaluateNext_364
    simp only [sm_wr]
    rw [if_neg (show ¬ nI 8 = 0 by decide), if_neg (show ¬ nI 8 = 1 by decide), if_neg (show ¬ nI 8 = 2 by decide), if_neg (show ¬ nI 8 = 3 by decide), if_neg (show ¬ nI 8 = 4 by decide), if_neg (show ¬ nI 8 = 5 by decide), if_neg (show ¬ nI 8 = 6 by decide), if_neg (show ¬ nI 8 = 7 by decide), if_pos (show nI 8 = 8 from rfl), show (2 : Nat) + 1 = 3 from rfl, u_pop hM', kd, cd, w20, w22]
    simp only [bo_1]
end
