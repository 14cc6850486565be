/-! evaluate -/
section
variable {pV : pVt} {nB nC p d1 d3 d4 n : Nat} {L LM : List Ty} {W : Nat → Ty} {A : Nat → Option Ty} {Mc Mm N Mc' Mm' : sm_M}
theorem rl_ev (hp : (p = 40 ∧ d1 = 50) ∨ (p = 50 ∧ d1 = 40)) (h : rl pV p L LM nC nB W A Mc Mm) (ho : vO Mc Mm Mc' Mm') (h29 : Mm' 1 29 = Mc' 18 8) : rl pV p L LM nC nB W A Mc' Mm' := by
  obtain ⟨r1, r2, r3, r4, r5⟩ := h
  obtain ⟨o1, o2, o3⟩ := ho
  have hp40 : 40 ≤ p := by rcases hp with ⟨q, -⟩ | ⟨q, -⟩ <;> rw [q] <;> decide
  exact ⟨r1.o (fun q a => o1 q (by omega)) (fun q a b => o2 q (by omega)) (o3 1 (by decide) (by decide) (by decide) (by decide) (by decide)) (o3 7 (by decide) (by decide) (by decide) (by decide) (by decide)), r2.o (fun q a b => o1 q (by omega)) (fun q a b => o2 q (by omega)) (o3 13 (by decide) (by decide) (by decide) (by decide) (by decide)), ⟨h29, by rw [o1 25 (by decide)]; exact r3.2⟩, r4.o (fun q a b => o1 q (by omega)) (fun q a b => o2 q (by omega)) (o3 37 (by decide) (by decide) (by decide) (by decide) (by decide)) (o3 38 (by decide) (by decide) (by decide) (by decide) (by decide)) (o3 39 (by decide) (by decide) (by decide) (by decide) (by decide)), r5.o (fun q a b => o1 q (by omega)) (fun q hq => o2 q (by omega)) (fun j a b => o3 j (by omega) (by omega) (by omega) (by omega) (by omega))⟩
theorem q_ev (hp : (p = 40 ∧ d1 = 50) ∨ (p = 50 ∧ d1 = 40)) (h : rl pV p L LM nC nB W A Mc Mm) {x : Int32} : lc_ev x [p, d1, p, d3, d4] Mc Mm (Rl pV) := by
  have h' := h.up0 (v := 0)
  have hN0 : sm_up Mm 1 0 0 1 0 = 0 := up_at
  unfold lc_ev
  simp only [jR_evaluate, sm_wr]
  generalize sm_up Mm 1 0 0 = N at h' hN0 ⊢
  obtain ⟨nE, b1, b2, b3, b4, b5⟩ := h'.2.1
  rcases e_hasA b1 b2 b3 b5 x with ⟨g, ⟨e, he, rfl, -⟩, e1, e2⟩ | ⟨e1, e2⟩
  · obtain ⟨xc, M1, M2, t1, t2, t3, t4, t5, t6, t7⟩ := t_prog hp h' (D := [p, d1, p, d3, d4]) b3 b1 he
    rcases t7 with ⟨rfl, hT, hr⟩ | ⟨hx, hr⟩
    · obtain ⟨nE', g1, g2, g3, g4, g5⟩ := t2.2.1
      have en : nE' = nE := nI_inj (by omega) (by omega) (g3.symm.trans ((t6 13 (by decide) (by decide) (by decide)).trans b3))
      subst en
      have hH : vH nE' L M1 M2 := ⟨g1, fun i hi => ⟨(g4 i hi).1, (g4 i hi).2.1, (g4 i hi).2.2.1, (g4 i hi).2.2.2.1, (g4 i hi).2.2.2.2.1⟩, g5⟩
      have hT' : pT (M1 10) (M1 11) (M1 12) (M1 13) (M1 14) L 8 [] e tyN := by
        rw [t3 10 (by decide) (by decide) (by decide), t3 11 (by decide) (by decide) (by decide), t3 12 (by decide) (by decide) (by decide), t3 13 (by decide) (by decide) (by decide), t3 14 (by decide) (by decide) (by decide)]
        exact hT
      have oc : ∀ q, q ≠ 18 → sm_up (sm_up (sm_up (sm_up M1 18 4 0) 18 7 0) 18 8 0) 18 9 0 q = M1 q := fun q a => by rw [up_ne a, up_ne a, up_ne a, up_ne a]
      have om : ∀ q, q ≠ 1 → sm_up (sm_up (sm_up (sm_up M2 1 20 0) 1 29 0) 1 30 0) 1 31 0 q = M2 q := fun q a => by rw [up_ne a, up_ne a, up_ne a, up_ne a]
      have om1 : ∀ j, j ≠ 20 → j ≠ 29 → j ≠ 30 → j ≠ 31 → sm_up (sm_up (sm_up (sm_up M2 1 20 0) 1 29 0) 1 30 0) 1 31 0 1 j = M2 1 j := fun j a b c d => by rw [up_as d, up_as c, up_as b, up_as a]
      have hS : vS nE' M1 M2 L 0 0 0 (fun _ => tyN) (fun _ => []) (sm_up (sm_up (sm_up (sm_up M1 18 4 0) 18 7 0) 18 8 0) 18 9 0) (sm_up (sm_up (sm_up (sm_up M2 1 20 0) 1 29 0) 1 30 0) 1 31 0) := by
        refine ⟨⟨by decide, Nat.le_refl _, Nat.le_refl _⟩, ⟨?_, ?_, ?_, up_at⟩, ⟨?_, ?_, up_at⟩, fun i hi => absurd hi (Nat.not_lt_zero _), fun f hf => absurd hf (Nat.not_lt_zero _), fun q hq => oc q (by omega), fun q hq => om q (by omega), fun j a b c d e => om1 j a c d e⟩
        · rw [up_as (by decide), up_as (by decide), up_as (by decide), up_at]; rfl
        · rw [up_as (by decide), up_as (by decide), up_at]; rfl
        · rw [up_as (by decide), up_at]; rfl
        · rw [up_as (by decide), up_as (by decide), up_at]; rfl
        · rw [up_as (by decide), up_at]; rfl
      have h20 : sm_up (sm_up (sm_up (sm_up M2 1 20 0) 1 29 0) 1 30 0) 1 31 0 1 20 = nI 0 := by rw [up_as (by decide), up_as (by decide), up_as (by decide), up_at]; rfl
      have hQ := v_all (D := [p, d1, p, d3, d4]) hH 61 0 e [] (-1) (-1) tyN 8 0 0 0 0 0 (fun _ => tyN) (fun _ => []) _ _ (by decide) (by decide) hS he hT' (Or.inl ⟨rfl, rfl, rfl⟩) h20 (Nat.le_refl _) (Nat.le_refl _)
      have hrS : sm_bi (jR_step (nI e) (-1) [] (sm_up (sm_up (sm_up (sm_up M2 1 20 0) 1 29 0) 1 30 0) 1 31 0)) (fun x8 E8 M8 => sm_dq E8 [] (jR_evaluate_60 x8 [] M8)) = rS (nI e) (-1) (sm_up (sm_up (sm_up (sm_up M2 1 20 0) 1 29 0) 1 30 0) 1 31 0) := by
        unfold rS
        rw [r_step h20 hS.2.2.1.1 (by decide) (by decide), bi_some, bi_some, dq_self]
      have hb : ∀ {E : Option sm_S}, sm_bi (jR_isExpression (nI e) [] N) (fun x2 E2 M2 => sm_dq E2 [] (if x2 = (0 : Int32) then (sm_bi (jR_refuse (1 : Int32) [] M2) (fun x10 E10 M10 => sm_dq E10 [] (some (x10, [], M10)))) else (sm_bi (jR_isProgram (nI e) [] M2) (fun x3 E3 M3 => sm_dq E3 [] (if x3 = (0 : Int32) then (sm_bi (jR_refuse (2 : Int32) [] M3) (fun x9 E9 M9 => sm_dq E9 [] (some (x9, [], M9)))) else (sm_bi (jR_step (nI e) (-1) [] (sm_up (sm_up (sm_up (sm_up M3 1 20 0) 1 29 0) 1 30 0) 1 31 0)) (fun x8 E8 M8 => sm_dq E8 [] (jR_evaluate_60 x8 [] M8)))))))) = rS (nI e) (-1) (sm_up (sm_up (sm_up (sm_up M2 1 20 0) 1 29 0) 1 30 0) 1 31 0) := by
        intro _
        rw [e2, bi_some, dq_self, if_neg (show ¬ (1 : Int32) = 0 by decide), hr, bi_some, dq_self, if_neg (show ¬ (1 : Int32) = 0 by decide), hrS]
      have hans : ∀ {r : Option sm_S}, jV_find 61 (nI e) (-1) 1 [p, d1, p, d3, d4] (sm_up (sm_up (sm_up (sm_up M1 18 4 0) 18 7 0) 18 8 0) 18 9 0) = r → jV_answerOf (nI e) [p, d1, p, d3, d4] M1 = sm_bi r (fun x5 E5 M5 => sm_dq E5 [p, d1, p, d3, d4] (if (M5 18 9) = (0 : Int32) then (sm_ck x5 500 (jV_answerOf_45 (M5 20 (Int32.toNatClampNeg x5)) [p, d1, p, d3, d4] M5)) else (jV_answerOf_45 (0 : Int32) [p, d1, p, d3, d4] M5))) := by
        intro r hr
        rw [← hr]
        simp only [jV_answerOf, sm_wr]
        rw [bo_0]
      rw [hb (E := none)]
      rcases hQ with ⟨v, nV', nF', s', TV', TF', Mc', Mm', f1, f2, f3, ⟨f4, f5, f6, f7⟩, -⟩ | ⟨z, s', Mc', Mm', f1, f2, f3, f4, f5, f6⟩
      · have r25 := ((f3.2.2.2.1 v f4).num f5).2
        have hs5 := f3.1
        have k5 : ∀ {ρ : Type} {q : Option ρ}, sm_ck (nI v) 500 q = q := ck_nI (by omega) (by decide)
        have k6 : ∀ {ρ : Type} {q : Option ρ}, sm_ck (nI v) 600 q = q := ck_nI (by omega) (by decide)
        have cv : (nI v).toNatClampNeg = v := nI_clamp (by omega)
        have hend : jR_evaluate_60 1 [] Mm' = some (Mc' 20 v, [], Mm') := by
          unfold jR_evaluate_60
          refine sm_lp_end ?_
          show jR_evaluate_60_c 1 [] Mm' = _
          unfold jR_evaluate_60_c jR_evaluate_79 jR_evaluate_100
          rw [if_neg (by decide), f7, if_neg (show ¬ (0 : Int32) < nI 0 by decide), if_neg (by decide), f6, k6, cv, r25]
          rfl
        have hrl : rl pV p L LM nC nB W A Mc' Mm' := rl_ev hp t2 f3.2.2.2.2.2 (f3.2.2.1.1.trans f3.2.1.2.2.1.symm)
        have k0 : Mm' 1 0 = 0 := (f3.2.2.2.2.2.2.2 0 (by decide) (by decide) (by decide) (by decide) (by decide)).trans (t4.trans hN0)
        refine ⟨Mc' 20 v, 0, Mm', Mm', f2.trans hend, by unfold jR_thrown; rw [k0], Or.inr (Or.inr (Or.inr ⟨rfl, 1, Mc, M1, Mc', e1, by decide, t1, ?_, f3.2.1.2.2.2, Rl.mk hp hrl⟩))⟩
        rw [hans f1, bi_some, dq_self, f3.2.1.2.2.2, if_pos rfl, k5, cv]
        rfl
      · have hend : jR_evaluate_60 0 [] Mm' = some (0, [], sm_up Mm' 1 0 3) := by
          unfold jR_evaluate_60
          refine sm_lp_end ?_
          show jR_evaluate_60_c 0 [] Mm' = _
          unfold jR_evaluate_60_c jR_evaluate_79 jR_evaluate_100 jR_refuse
          rw [if_pos rfl, if_pos rfl]
          simp only [sm_wr]
          rw [bi_some, dq_self]
          rfl
        have hrl : rl pV p L LM nC nB W A Mc' (sm_up Mm' 1 0 3) := (rl_ev hp t2 f6 (f5.trans f4.symm)).up0
        have n9 : Mc' 18 9 ≠ 0 := by rw [f3]; decide
        refine ⟨0, 3, sm_up Mm' 1 0 3, sm_up Mm' 1 0 3, f2.trans hend, by unfold jR_thrown; rw [up_at], Or.inr (Or.inr (Or.inl ⟨rfl, 1, 0, Mc, M1, Mc', e1, by decide, t1, ?_, n9, Rl.mk hp hrl⟩))⟩
        rw [hans f1, bi_some, dq_self, if_neg n9]
        rfl
    · refine ⟨0, 2, sm_up M2 1 0 2, sm_up M2 1 0 2, ?_, by unfold jR_thrown; rw [up_at], Or.inr (Or.inl ⟨rfl, 1, xc, Mc, M1, e1, by decide, t1, hx, Rl.mk hp t2.up0⟩)⟩
      rw [e2, bi_some, dq_self, if_neg (show ¬ (1 : Int32) = 0 by decide), hr, bi_some, dq_self, if_pos rfl]
      rfl
  · refine ⟨0, 1, sm_up N 1 0 1, sm_up N 1 0 1, ?_, by unfold jR_thrown; rw [up_at], Or.inl ⟨rfl, Mc, e1, Rl.mk hp h'.up0⟩⟩
    rw [e2, bi_some, dq_self, if_pos rfl]
    rfl
end
