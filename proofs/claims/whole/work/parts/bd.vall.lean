/-! evaluation, all -/
section
variable {nE : Nat} {B Bm : sm_M} {L : List Ty} {nV nF s : Nat} {TV : Nat → Ty} {TF : Nat → List Ty} {Mc Mm : sm_M} {D : sm_D} {x y : Int32} {env : List Ty} {d e n : Nat} {t : Ty}
theorem vI_S (hS : vS nE B Bm L nV nF s TV TF Mc Mm) (hs : s < 500) : vS nE B Bm L nV nF (s + 1) TV TF (sm_up Mc 18 8 (nI (s + 1))) (vI Mm d s (nI e) y) := by
  obtain ⟨⟨a1, a2, a3⟩, ⟨b1, b2, b3, b4⟩, ⟨m1, m2, m3⟩, hV, hF, o1, o2, o3⟩ := hS
  have oc : ∀ q, q ≠ 18 → sm_up Mc 18 8 (nI (s + 1)) q = Mc q := fun q h => up_ne h
  have oc1 : ∀ j, j ≠ 8 → sm_up Mc 18 8 (nI (s + 1)) 18 j = Mc 18 j := fun j h => up_as h
  have om : ∀ q, q ≠ 1 → q ≠ 18 → q ≠ 19 → q ≠ 22 → vI Mm d s (nI e) y q = Mm q := fun q h1 h2 h3 h4 => by unfold vI bgF; rw [up_ne h4, up_ne h1, up_ne h3, up_ne h2, up_ne h1]
  have om1 : ∀ j, j ≠ 20 → j ≠ 29 → vI Mm d s (nI e) y 1 j = Mm 1 j := fun j h1 h2 => by unfold vI bgF; rw [up_ne (by decide), up_as h1, up_ne (by decide), up_ne (by decide), up_as h2]
  refine ⟨⟨by omega, by omega, by omega⟩, ⟨by rw [oc1 4 (by decide)]; exact b1, by rw [oc1 7 (by decide)]; exact b2, up_at, by rw [oc1 9 (by decide)]; exact b4⟩, ⟨?_, by rw [om1 30 (by decide) (by decide)]; exact m2, by rw [om1 31 (by decide) (by decide)]; exact m3⟩, fun i hi => (hV i hi).o (by rw [oc 19 (by decide)]) (by rw [oc 20 (by decide)]) (by rw [oc 21 (by decide)]) (by rw [om 25 (by decide) (by decide) (by decide) (by decide)]) (by rw [om 26 (by decide) (by decide) (by decide) (by decide)]) (fun _ _ => rfl) (Nat.le_refl _) (fun _ _ => rfl), fun f hf => (hF f hf).o (Nat.le_refl _) (by rw [oc 22 (by decide)]) (by rw [oc 23 (by decide)]) (fun a _ => by rw [oc 21 (by decide)]) (fun j _ => ⟨by rw [om 27 (by decide) (by decide) (by decide) (by decide)], by rw [om 28 (by decide) (by decide) (by decide) (by decide)]⟩) (fun _ _ => rfl) (fun _ _ => rfl), fun q hq => by rw [oc q (by omega)]; exact o1 q hq, fun q hq => by rw [om q (by omega) (by omega) (by omega) (by omega)]; exact o2 q hq, fun j h1 h2 h3 h4 h5 => by rw [om1 j h1 h3]; exact o3 j h1 h2 h3 h4 h5⟩
  unfold vI bgF
  rw [up_ne (by decide), up_as (by decide), up_ne (by decide), up_ne (by decide), up_at]
theorem vI_M : vM d e 0 y (vI Mm d s (nI e) y) := by
  refine ⟨?_, ?_, ?_, up_at⟩
  · unfold vI bgF; rw [up_ne (by decide), up_at]
  · unfold vI; rw [up_ne (by decide)]; exact bgF_18
  · unfold vI; rw [up_ne (by decide)]; exact bgF_19
theorem vI_B : vB d (vI Mm d s (nI e) y) Mm := fun j hj => by
  unfold vI bgF
  refine ⟨?_, ?_, ?_, ?_⟩
  · rw [up_ne (by decide), up_ne (by decide), up_ne (by decide), up_as (by omega), up_ne (by decide)]
  · rw [up_ne (by decide), up_ne (by decide), up_as (by omega), up_ne (by decide), up_ne (by decide)]
  · rw [up_ne (by decide), up_ne (by decide), up_ne (by decide), up_ne (by decide), up_ne (by decide)]
  · rw [up_as (by omega), up_ne (by decide), up_ne (by decide), up_ne (by decide), up_ne (by decide)]
theorem v_all (hH : vH nE L B Bm) : ∀ n : Nat, vP nE B Bm L D n := by
  intro n
  induction n with
  | zero => intro d e env x y t m c1 c2 nV nF s TV TF Mc Mm hd0 hd1; omega
  | succ n ih =>
    intro d e env x y t m c1 c2 nV nF s TV TF Mc Mm hd0 hd1 hS he hT hE h20 h1 h2
    obtain ⟨⟨a1, a2, a3⟩, ⟨b1, b2, b3, b4⟩, ⟨m1, m2, m3⟩, -, -, hO⟩ := id hS
    show vQ nE B Bm L D c1 (c2 + 1) nV nF TV TF t d Mm (jV_find0 (jV_find n) (nI e) x (nI (d + 1)) D Mc) _
    by_cases g : s = 500 ∨ d = 60
    · have hr : rS (nI e) y Mm = jR_evaluate_60 0 [] Mm := by
        unfold rS
        rw [r_step0 h20 m1 g, bi_some]
      have hc : jV_find0 (jV_find n) (nI e) x (nI (d + 1)) D Mc = some (0, D, sm_up Mc 18 9 1) := by
        unfold jV_find0 jV_find_23
        rw [b4, if_pos rfl, b3, bo_1]
        by_cases g1 : s = 500
        · subst g1
          rw [if_pos (show nI 500 = (500 : Int32) from rfl)]
          rfl
        · have g2 : d = 60 := by omega
          subst g2
          by_cases g3 : nI s = (500 : Int32)
          · rw [if_pos g3]; rfl
          · rw [if_neg g3, if_pos (show (60 : Int32) < nI (60 + 1) by decide)]; rfl
      refine Or.inr ⟨0, s, sm_up Mc 18 9 1, Mm, hc, hr, up_at, by rw [up_as (by decide)]; exact b3, m1, fun q hq => by rw [up_ne (by omega)]; exact hO.1 q hq, hO.2⟩
    · have hr : rS (nI e) y Mm = jR_evaluate_60 1 [] (vI Mm d s (nI e) y) := by
        unfold rS
        rw [r_step h20 m1 (by omega) (by omega), bi_some]
      have n5 : ¬ nI s = (500 : Int32) := fun q => by
        have := nI_inj (by omega) (by decide) (show nI s = nI 500 from q)
        omega
      have n6 : ¬ (60 : Int32) < nI (d + 1) := nI_nlt (a := 60) (by omega) (by decide)
      have hl := hH.1
      have ke : ∀ {ρ : Type} {q : Option ρ}, sm_ck (nI e) 40 q = q := ck_nI (by omega) (by decide)
      have ce : (nI e).toNatClampNeg = e := nI_clamp (by omega)
      have hS1 : vS nE B Bm L nV nF (s + 1) TV TF (sm_up Mc 18 8 (nI (s + 1))) (vI Mm d s (nI e) y) := vI_S hS (by omega)
      have hM1 : vM d e 0 y (vI Mm d s (nI e) y) := vI_M
      have hB1 : vB d (vI Mm d s (nI e) y) Mm := vI_B
      have hd : d < 60 := by omega
      have hn : d + 1 + n = 61 := by omega
      obtain ⟨k, h, k10, hk, h1', h8, h15, px, py, pz, pv, pf⟩ := hH.2.2 e he
      rw [hr]
      unfold jV_find0
      rw [b4, if_pos rfl, b3, if_neg n5, if_neg n6, nI_1]
      simp only [sm_wr]
      rw [ke, ke, ke, ce, hS1.rowC (show 10 < 18 by decide), hS1.rowC (show 11 < 18 by decide), hk]
      match m, hT with
      | 0, hT => exact hT.elim
      | m + 1, hT =>
      rw [pT_k hk k10] at hT
      match k, k10 with
      | 0, _ =>
        rw [if_pos (show nI 0 = 0 from nI_0)]
        rcases hT with ⟨-, q⟩ | ⟨z, q⟩ | ⟨z, q⟩ | ⟨z, q⟩ | ⟨z, q⟩ | ⟨z, q⟩ | ⟨z, q⟩ | ⟨z, q⟩ | ⟨z, q⟩ <;> first | exact absurd z (by decide) | skip
        subst q
        exact v_const hH hd hS1 hM1 hB1 he hk (by omega) (by omega)
      | 1, _ =>
        rw [if_neg (show ¬ nI 1 = 0 by decide), if_pos (show nI 1 = 1 from rfl)]
        rcases hT with ⟨z, q⟩ | ⟨-, q⟩ | ⟨z, q⟩ | ⟨z, q⟩ | ⟨z, q⟩ | ⟨z, q⟩ | ⟨z, q⟩ | ⟨z, q⟩ | ⟨z, q⟩ <;> first | exact absurd z (by decide) | skip
        obtain ⟨v, hv, ev⟩ := pv rfl
        have hx : xN (B 11) e = v := by unfold xN; rw [ev]; exact nI_clamp (by omega)
        rw [hx] at q
        rw [ev]
        exact (v_vari hH hd hS1 hM1 hB1 he hk hv ev hE q (by omega) (by omega)).wrap
      | 2, _ =>
        rw [if_neg (show ¬ nI 2 = 0 by decide), if_neg (show ¬ nI 2 = 1 by decide), if_pos (show nI 2 = 2 from rfl)]
        rcases hT with ⟨z, q⟩ | ⟨z, q⟩ | ⟨-, q⟩ | ⟨z, q⟩ | ⟨z, q⟩ | ⟨z, q⟩ | ⟨z, q⟩ | ⟨z, q⟩ | ⟨z, q⟩ <;> first | exact absurd z (by decide) | skip
        exact (v_two hH ih hn hd hS1 hM1 hB1 he hk (Or.inl ⟨Or.inl rfl, rfl, rfl, q.1⟩) (px (by decide)) (py (by decide)) q.2.1 q.2.2 hE (by omega) (by omega)).wrap
      | 3, _ =>
        rw [if_neg (show ¬ nI 3 = 0 by decide), if_neg (show ¬ nI 3 = 1 by decide), if_neg (show ¬ nI 3 = 2 by decide), if_pos (show nI 3 = 3 from rfl)]
        rcases hT with ⟨z, q⟩ | ⟨z, q⟩ | ⟨-, q⟩ | ⟨z, q⟩ | ⟨z, q⟩ | ⟨z, q⟩ | ⟨z, q⟩ | ⟨z, q⟩ | ⟨z, q⟩ <;> first | exact absurd z (by decide) | skip
        exact (v_two hH ih hn hd hS1 hM1 hB1 he hk (Or.inl ⟨Or.inr (Or.inl rfl), rfl, rfl, q.1⟩) (px (by decide)) (py (by decide)) q.2.1 q.2.2 hE (by omega) (by omega)).wrap
      | 4, _ =>
        rw [if_neg (show ¬ nI 4 = 0 by decide), if_neg (show ¬ nI 4 = 1 by decide), if_neg (show ¬ nI 4 = 2 by decide), if_neg (show ¬ nI 4 = 3 by decide), if_pos (show nI 4 = 4 from rfl)]
        rcases hT with ⟨z, q⟩ | ⟨z, q⟩ | ⟨-, q⟩ | ⟨z, q⟩ | ⟨z, q⟩ | ⟨z, q⟩ | ⟨z, q⟩ | ⟨z, q⟩ | ⟨z, q⟩ <;> first | exact absurd z (by decide) | skip
        exact (v_two hH ih hn hd hS1 hM1 hB1 he hk (Or.inl ⟨Or.inr (Or.inr rfl), rfl, rfl, q.1⟩) (px (by decide)) (py (by decide)) q.2.1 q.2.2 hE (by omega) (by omega)).wrap
      | 5, _ =>
        rw [if_neg (show ¬ nI 5 = 0 by decide), if_neg (show ¬ nI 5 = 1 by decide), if_neg (show ¬ nI 5 = 2 by decide), if_neg (show ¬ nI 5 = 3 by decide), if_neg (show ¬ nI 5 = 4 by decide), if_pos (show nI 5 = 5 from rfl)]
        rcases hT with ⟨z, q⟩ | ⟨z, q⟩ | ⟨z, q⟩ | ⟨-, q⟩ | ⟨z, q⟩ | ⟨z, q⟩ | ⟨z, q⟩ | ⟨z, q⟩ | ⟨z, q⟩ <;> first | exact absurd z (by decide) | skip
        exact (v_choice hH ih hn hd hS1 hM1 hB1 he hk (px (by decide)) (py (by decide)) (pz (by decide)) q.1 q.2.1 q.2.2 hE (by omega) (by omega)).wrap
      | 6, _ =>
        rw [if_neg (show ¬ nI 6 = 0 by decide), if_neg (show ¬ nI 6 = 1 by decide), if_neg (show ¬ nI 6 = 2 by decide), if_neg (show ¬ nI 6 = 3 by decide), if_neg (show ¬ nI 6 = 4 by decide), if_neg (show ¬ nI 6 = 5 by decide), if_pos (show nI 6 = 6 from rfl)]
        rcases hT with ⟨z, q⟩ | ⟨z, q⟩ | ⟨z, q⟩ | ⟨z, q⟩ | ⟨-, q⟩ | ⟨z, q⟩ | ⟨z, q⟩ | ⟨z, q⟩ | ⟨z, q⟩ <;> first | exact absurd z (by decide) | skip
        obtain ⟨-, a, b, q2, q3⟩ := q
        exact v_lam hH hd hS1 hM1 hB1 he hk hE q2 q3 (by omega) (by omega)
      | 7, _ =>
        rw [if_neg (show ¬ nI 7 = 0 by decide), if_neg (show ¬ nI 7 = 1 by decide), if_neg (show ¬ nI 7 = 2 by decide), if_neg (show ¬ nI 7 = 3 by decide), if_neg (show ¬ nI 7 = 4 by decide), if_neg (show ¬ nI 7 = 5 by decide), if_neg (show ¬ nI 7 = 6 by decide), if_pos (show nI 7 = 7 from rfl)]
        rcases hT with ⟨z, q⟩ | ⟨z, q⟩ | ⟨z, q⟩ | ⟨z, q⟩ | ⟨z, q⟩ | ⟨-, q⟩ | ⟨z, q⟩ | ⟨z, q⟩ | ⟨z, q⟩ <;> first | exact absurd z (by decide) | skip
        obtain ⟨a, q2, q3⟩ := q
        exact (v_call hH ih hn hd hS1 hM1 hB1 he hk (px (by decide)) (py (by decide)) q2 q3 hE (by omega) (by omega)).wrap
      | 8, _ =>
        rw [if_neg (show ¬ nI 8 = 0 by decide), if_neg (show ¬ nI 8 = 1 by decide), if_neg (show ¬ nI 8 = 2 by decide), if_neg (show ¬ nI 8 = 3 by decide), if_neg (show ¬ nI 8 = 4 by decide), if_neg (show ¬ nI 8 = 5 by decide), if_neg (show ¬ nI 8 = 6 by decide), if_neg (show ¬ nI 8 = 7 by decide), if_pos (show nI 8 = 8 from rfl)]
        rcases hT with ⟨z, q⟩ | ⟨z, q⟩ | ⟨z, q⟩ | ⟨z, q⟩ | ⟨z, q⟩ | ⟨z, q⟩ | ⟨-, q⟩ | ⟨z, q⟩ | ⟨z, q⟩ <;> first | exact absurd z (by decide) | skip
        obtain ⟨a, b, q1, q2, q3⟩ := q
        exact (v_two hH ih hn hd hS1 hM1 hB1 he hk (Or.inr ⟨rfl, q1⟩) (px (by decide)) (py (by decide)) q2 q3 hE (by omega) (by omega)).wrap
      | 9, _ =>
        rw [if_neg (show ¬ nI 9 = 0 by decide), if_neg (show ¬ nI 9 = 1 by decide), if_neg (show ¬ nI 9 = 2 by decide), if_neg (show ¬ nI 9 = 3 by decide), if_neg (show ¬ nI 9 = 4 by decide), if_neg (show ¬ nI 9 = 5 by decide), if_neg (show ¬ nI 9 = 6 by decide), if_neg (show ¬ nI 9 = 7 by decide), if_neg (show ¬ nI 9 = 8 by decide), if_pos (show nI 9 = 9 from rfl)]
        rcases hT with ⟨z, q⟩ | ⟨z, q⟩ | ⟨z, q⟩ | ⟨z, q⟩ | ⟨z, q⟩ | ⟨z, q⟩ | ⟨z, q⟩ | ⟨-, q⟩ | ⟨z, q⟩ <;> first | exact absurd z (by decide) | skip
        obtain ⟨b, q⟩ := q
        exact (v_half (ta := t) (tb := b) hH ih hn hd hS1 hM1 hB1 he hk (Or.inl rfl) (px (by decide)) q (by rw [if_pos rfl]) hE (by omega) (by omega)).wrap
      | 10, _ =>
        rw [if_neg (show ¬ nI 10 = 0 by decide), if_neg (show ¬ nI 10 = 1 by decide), if_neg (show ¬ nI 10 = 2 by decide), if_neg (show ¬ nI 10 = 3 by decide), if_neg (show ¬ nI 10 = 4 by decide), if_neg (show ¬ nI 10 = 5 by decide), if_neg (show ¬ nI 10 = 6 by decide), if_neg (show ¬ nI 10 = 7 by decide), if_neg (show ¬ nI 10 = 8 by decide), if_neg (show ¬ nI 10 = 9 by decide), if_pos (show nI 10 = 10 from rfl)]
        rcases hT with ⟨z, q⟩ | ⟨z, q⟩ | ⟨z, q⟩ | ⟨z, q⟩ | ⟨z, q⟩ | ⟨z, q⟩ | ⟨z, q⟩ | ⟨z, q⟩ | ⟨-, q⟩ <;> first | exact absurd z (by decide) | skip
        obtain ⟨a, q⟩ := q
        exact (v_half (ta := a) (tb := t) hH ih hn hd hS1 hM1 hB1 he hk (Or.inr rfl) (px (by decide)) q (by rw [if_neg (by decide)]) hE (by omega) (by omega)).wrap
      | k + 11, hk11 => omega
end
