/-! compile, the call -/
section
variable {nB nC p d1 d3 d4 : Nat} {L LM : List Ty} {W : Nat → Ty} {A : Nat → Option Ty} {Mc Mm M1 M2 Mc' Mm' : sm_M} {LR : List Ty}
/-- the reference has put its code back -/
theorem rl_fell (hp : (p = 40 ∧ d1 = 50) ∨ (p = 50 ∧ d1 = 40)) (h : rl pVV p L LM nC nB W A M1 M2) (hc : tabC Mc' L) (hco : ∀ q, 8 < q → (q < 24 ∨ 30 < q) → (q < d1 ∨ d1 + 9 < q) → Mc' q = M1 q) (h25 : Mc' 25 0 = 0) (hO : wOr (kp0 M2) LM LR Mm') : rl pVV p L LM nC nB W A Mc' (kp1 (sm_up (sm_up Mm' 1 1 (M2 1 1)) 1 39 (M2 1 39))) := by
  obtain ⟨u1, ⟨K, u2⟩, -, u4, u5⟩ := hO
  have e11 : M2 1 1 = nI LM.length := h.1.2.2.2.2.1.2.1
  rw [u2] at u1
  have hT := tabM_cut u1
  generalize hN : sm_up (sm_up Mm' 1 1 (M2 1 1)) 1 39 (M2 1 39) = N
  have n : ∀ q, q ≠ 1 → N q = Mm' q := fun q hq => by rw [← hN, up_ne hq, up_ne hq]
  have b : ∀ q, 46 < q → N q = kp0 M2 q := fun q hq => by rw [n q (by omega), u4 q (by omega)]
  refine rl_back hp h hc hco h25 (tabM_o (fun q a b => by rw [kp1_o (by omega), n q (by omega), up_ne (by omega)]) (by rw [kp1_o (by decide), ← hN, up_as (by decide), up_at, up_at, e11]) hT) (fun q hq => ?_) (fun j hj => ⟨?_, ?_, ?_, ?_⟩) (fun j hj => ⟨?_, ?_⟩) (fun j hj => ?_) (fun j j1 j2 => ?_)
  · rw [kp1_o (by omega), n q (by omega), u4 q (by omega), kp0_o (by omega)]
  · rw [kp1_29 hj, b 54 (by decide), kp0_54 hj]
  · rw [kp1_30 hj, b 55 (by decide), kp0_55 hj]
  · rw [kp1_31 hj, b 56 (by decide), kp0_56 hj]
  · rw [kp1_32 hj, b 57 (by decide), kp0_57 hj]
  · rw [kp1_33 hj, b 58 (by decide), kp0_58 hj]
  · rw [kp1_34 hj, b 59 (by decide), kp0_59 hj]
  · rw [kp1_35 hj, b 60 (by decide), kp0_60 hj]
  · rw [kp1_o (by decide), ← hN]
    by_cases g : j = 39
    · rw [g, up_at]
    · rw [up_as g, up_as j1, u5 j j1 g j2, kp0_o (by decide)]
theorem q_co (hp : (p = 40 ∧ d1 = 50) ∨ (p = 50 ∧ d1 = 40)) (h : rl pVV p L LM nC nB W A Mc Mm) {x : Int32} : lc_co x [p, d1, p, d3, d4] Mc Mm (Rl pVV) := by
  have h' := h.up0 (v := 0)
  have hN0 : sm_up Mm 1 0 0 1 0 = 0 := up_at
  have hp' : (d1 = 40 ∧ p = 50) ∨ (d1 = 50 ∧ p = 40) := by omega
  have hg := in_gC hp'
  have hd : 40 ≤ d1 := by omega
  unfold lc_co
  simp only [jR_compile, sm_wr]
  generalize sm_up Mm 1 0 0 = N at h' hN0 ⊢
  obtain ⟨nE, b1, b2, b3, b4, b5⟩ := h'.2.1
  rcases e_hasA b1 b2 b3 b5 x with ⟨g, ⟨e, he, rfl, -⟩, e1, e2⟩ | ⟨e1, e2⟩
  · obtain ⟨xc, M1, M2, t1, t2, t3, t4, t5, t6, t7⟩ := t_prog hp h' (D := [p, d1, p, d3, d4]) b3 b1 he
    rcases t7 with ⟨rfl, hT, hr⟩ | ⟨hx, hr⟩
    · obtain ⟨nE', g1, g2, g3, g4, g5⟩ := t2.2.1
      have en : nE' = nE := nI_inj (by omega) (by omega) (g3.symm.trans ((t6 13 (by decide) (by decide) (by decide)).trans b3))
      subst en
      obtain ⟨a1, a2, a3, a4, a5, a6, a7, a8, a9, a10⟩ := id t2.1
      have hT' : pT (M1 10) (M1 11) (M1 12) (M1 13) (M1 14) L 8 [] e tyN := by
        rw [t3 10 (by decide) (by decide) (by decide), t3 11 (by decide) (by decide) (by decide), t3 12 (by decide) (by decide) (by decide), t3 13 (by decide) (by decide) (by decide), t3 14 (by decide) (by decide) (by decide)]
        exact hT
      have h25 : M1 25 0 = 0 := t2.2.2.1.2
      have m0 : M2 1 0 = 0 := t4.trans hN0
      have hL60 : L.length + (L.map ty_rr).length ≤ 60 := by rw [List.length_map]; omega
      have hok : ∀ t, t ∈ L → tyok t := fun t ht => (a4 t ht).1
      have hH1 : vH nE' L M1 (kp0 M2) := ⟨g1, fun i hi => by
        rw [kp0_o (q := 12) (by decide), kp0_o (q := 13) (by decide), kp0_o (q := 14) (by decide), kp0_o (q := 15) (by decide), kp0_o (q := 16) (by decide)]
        exact ⟨(g4 i hi).1, (g4 i hi).2.1, (g4 i hi).2.2.1, (g4 i hi).2.2.2.1, (g4 i hi).2.2.2.2.1⟩, g5⟩
      have hw1 := w_prog (p := d1) (nE := nE') (d0 := p) (d1 := d1) (d2 := p) (d3 := d3) (d4 := d4) (B := M1) (Bm := kp0 M2) (L := L) (LM0 := LM) (FR := L.map ty_rr) (e := e) (m := 8) (t := tyN) hg hd hH1 hL60 a2 (by omega) a1 (tabM_o (fun q a b => kp0_o (by omega)) (by rw [kp0_o (by decide)]) a5) a3 a7 h25 (fun a b q => rr_mem q) hok (fun i t hi => by
        obtain ⟨r, hr, e7⟩ := a9 i t hi
        rw [kp0_o (by decide)]
        exact Or.inr ⟨r, t, rfl, hr, e7⟩) he hT'
      rcases hw1 with ⟨nC1, nB1, cur1, nV1, nD1, LC1, LR1, W1, A1, TE1, BD1, X1, Z1, f1, f2, f3⟩ | ⟨LC1, LR1, X1, Z1, f1, f2, f3, f4⟩
      · have u4 := f3.2.2.2.2.2.2.2.2.2
        have n6 : ∀ q, q ≠ 1 → sm_up Z1 1 1 0 q = Z1 q := fun q hq => up_ne hq
        have r8 : ∀ q, 7 ≤ q → q < 54 → (q < 29 ∨ 46 < q) → sm_up Z1 1 1 0 q = M2 q := fun q a b c => by rw [n6 q (by omega), u4.1 q (by omega), kp0_o (by omega)]
        have r1 : ∀ j, j ≠ 1 → j ≠ 39 → (j < 47 ∨ 54 < j) → sm_up Z1 1 1 0 1 j = M2 1 j := fun j a b c => by rw [up_as a, u4.2 j a b c, kp0_o (by decide)]
        obtain ⟨Y, y1, y2, y3, y4, y5⟩ := r_again (x := nI e) (X := sm_up Z1 1 1 0) a1 a2 hok (fun i hi => by
          rw [r8 8 (by decide) (by decide) (by decide), r8 9 (by decide) (by decide) (by decide), r8 10 (by decide) (by decide) (by decide), r8 11 (by decide) (by decide) (by decide)]
          exact a10 i hi) (by rw [r1 7 (by decide) (by decide) (by decide)]; exact a8) L.length 0 (sm_up Z1 1 1 0) (by omega) (by
          rw [List.take_zero]
          exact ⟨Nat.zero_le _, by rw [up_at]; exact nI_0.symm, List.nodup_nil, fun i t hi => by simp at hi⟩) (fun j hj => absurd hj (by omega)) (fun _ _ => rfl) (fun _ _ => rfl)
        have yr : ∀ q, 7 < q → q < 54 → (q < 29 ∨ 46 < q) → Y q = M2 q := fun q a b c => by rw [y4 q a, r8 q (by omega) b c]
        have yr1 : ∀ j, j ≠ 1 → j ≠ 39 → (j < 47 ∨ 54 < j) → Y 1 j = M2 1 j := fun j a b c => by rw [y5 j a, r1 j a b c]
        have hH2 : vH nE' L M1 Y := ⟨g1, fun i hi => by
          rw [yr 12 (by decide) (by decide) (by decide), yr 13 (by decide) (by decide) (by decide), yr 14 (by decide) (by decide) (by decide), yr 15 (by decide) (by decide) (by decide), yr 16 (by decide) (by decide) (by decide)]
          exact ⟨(g4 i hi).1, (g4 i hi).2.1, (g4 i hi).2.2.1, (g4 i hi).2.2.2.1, (g4 i hi).2.2.2.2.1⟩, g5⟩
        have hw2 := w_prog (p := d1) (nE := nE') (d0 := p) (d1 := d1) (d2 := p) (d3 := d3) (d4 := d4) (B := M1) (Bm := Y) (L := L) (LM0 := L) (FR := L.map ty_rr) (e := e) (m := 8) (t := tyN) hg hd hH2 hL60 a2 (by omega) a1 y2 a3 a3 h25 (fun a b q => rr_mem q) hok (fun i t hi => Or.inr ⟨i, t, rfl, hi, y3 i (List.getElem?_eq_some_iff.mp hi).1⟩) he hT'
        rcases hw2 with ⟨nC2, nB2, cur2, nV2, nD2, LC2, LR2, W2, A2, TE2, BD2, X2, Z, k1, k2, k3⟩ | ⟨_, _, _, _, k1, -, -, -⟩
        · obtain ⟨vd, M4, v1, v2, v3, v4⟩ := w_ver (d0 := p) (d1 := d1) (d2 := p) (d3 := d3) (d4 := d1) hg hd hL60 k3
          obtain ⟨K2, kc⟩ := k3.2.1.2.1
          rw [kc] at v3
          obtain ⟨M6, w1, w2, w3⟩ := j_forget (D := [p, d1, p, d1, d1]) (L := L) K2.length K2 (sm_up M4 d1 14 vd) rfl (tabC_o (fun q hq => up_ne (by omega)) v3)
          have m6 : ∀ q, 8 < q → q ≠ 32 → q ≠ d1 → M6 q = X2 q := fun q a b c => by rw [w3 q a, up_ne c, v4 q a b, up_ne c]
          have m6d : ∀ j, j ≠ 13 → j ≠ 14 → M6 d1 j = X2 d1 j := fun j a b => by rw [w3 d1 (by omega), up_as b, v4 d1 (by omega) (by omega), up_as a]
          have m13 : M6 d1 13 = 1 := by rw [w3 d1 (by omega), up_as (by decide), v4 d1 (by omega) (by omega), up_at]
          have m14 : M6 d1 14 = vd := by rw [w3 d1 (by omega), up_at]
          have hrl := rl_done hp t2 k3 yr yr1 y3 v2 w2 m6 m6d m13 m14
          have fr2 := k3.2.2.2.2.2.2.2.2.2
          have hb6 : bgM M6 d1 6 = nI nC2 := by rw [bgM_o (by omega) (by omega) (by omega), m6d 6 (by decide) (by decide)]; exact k3.2.2.1.1
          have hr39 : rsM (sm_up (sm_up Z 1 38 (Z 1 52)) 1 37 1) 1 39 = nI nC2 := by rw [rsM_1 (by decide) (by decide) (by decide) (by decide), up_as (by decide), up_as (by decide)]; exact k3.2.2.2.1.1
          have hr0 : rsM (sm_up (sm_up Z 1 38 (Z 1 52)) 1 37 1) 1 0 = 0 := by rw [rsM_1 (by decide) (by decide) (by decide) (by decide), up_as (by decide), up_as (by decide), fr2.2 0 (by decide) (by decide) (by decide), yr1 0 (by decide) (by decide) (by decide)]; exact m0
          have h85 : jR_compile_85 (nI e) 0 [] (sm_up Z1 1 1 0) = some (nI nC2, [], rsM (sm_up (sm_up Z 1 38 (Z 1 52)) 1 37 1)) := by
            rw [nI_0] at y1
            rw [y1, r_85 a2 (by rw [yr1 7 (by decide) (by decide) (by decide)]; exact a8) k2, hr39]
          refine ⟨nI nC2, 0, rsM (sm_up (sm_up Z 1 38 (Z 1 52)) 1 37 1), rsM (sm_up (sm_up Z 1 38 (Z 1 52)) 1 37 1), ?_, by unfold jR_thrown; rw [hr0], Or.inr (Or.inr (Or.inr ⟨rfl, p, d1, p, d3, d4, d1, d1, 1, 1, vd, Mc, M1, sm_up X2 d1 13 1, M4, M6, rfl, hp, e1, by decide, t1, k1, by decide, v1, by rw [a1.2.1]; exact w1, hb6, Rl.mk hp' hrl⟩))⟩
          rw [e2, bi_some, dq_self, if_neg (show ¬ (1 : Int32) = 0 by decide), hr, bi_some, dq_self, if_neg (show ¬ (1 : Int32) = 0 by decide), r_kp0, bi_some, dq_self, f2, bi_some, dq_self, if_neg (show ¬ (1 : Int32) = 0 by decide), h85]
        · rw [f1] at k1
          injection k1 with k1
          injection k1 with k1
          exact absurd k1 (by decide)
      · have o0 := f3.tn a3
        obtain ⟨⟨o1, o2⟩, ⟨⟨K, o3⟩, -⟩, -, -, -, o7⟩ := f3
        obtain ⟨oo, q1, q2⟩ := o2 0 (Or.inr rfl)
        rw [q2 rfl] at q1
        have q25 : X1 25 0 = 0 := ty_pr.inj o1.2.2.1 q1 (Or.inr ⟨0, tyN, rfl, o0, nI_0.symm⟩)
        rw [o3] at o1
        obtain ⟨M4, w1, w2, w3⟩ := j_forget (D := [p, d1, p, d3, d1]) (L := L) K.length K X1 rfl o1
        have hrl := rl_fell hp t2 w2 (fun q a b c => (w3 q a).trans (o7 q a b c)) (by rw [w3 25 (by decide)]; exact q25) f4
        refine ⟨0, 3, sm_up (kp1 (sm_up (sm_up Z1 1 1 (M2 1 1)) 1 39 (M2 1 39))) 1 0 3, sm_up (kp1 (sm_up (sm_up Z1 1 1 (M2 1 1)) 1 39 (M2 1 39))) 1 0 3, ?_, by unfold jR_thrown; rw [up_at], Or.inr (Or.inr (Or.inl ⟨rfl, p, d1, p, d3, d4, d1, 1, Mc, M1, X1, M4, rfl, hp, e1, by decide, t1, f1, by rw [a1.2.1]; exact w1, Rl.mk hp hrl.up0⟩))⟩
        rw [e2, bi_some, dq_self, if_neg (show ¬ (1 : Int32) = 0 by decide), hr, bi_some, dq_self, if_neg (show ¬ (1 : Int32) = 0 by decide), r_kp0, bi_some, dq_self, f2, bi_some, dq_self, if_pos rfl, r_kp1, bi_some, dq_self]
        rfl
    · refine ⟨0, 2, sm_up M2 1 0 2, sm_up M2 1 0 2, ?_, by unfold jR_thrown; rw [up_at], Or.inr (Or.inl ⟨rfl, 1, xc, Mc, M1, e1, by decide, t1, hx, Rl.mk hp t2.up0⟩)⟩
      rw [e2, bi_some, dq_self, if_neg (show ¬ (1 : Int32) = 0 by decide), hr, bi_some, dq_self, if_pos rfl]
      rfl
  · refine ⟨0, 1, sm_up N 1 0 1, sm_up N 1 0 1, ?_, by unfold jR_thrown; rw [up_at], Or.inl ⟨rfl, Mc, e1, Rl.mk hp h'.up0⟩⟩
    rw [e2, bi_some, dq_self, if_pos rfl]
    rfl
end
