/-! the reference's typing: halves, calls, pairs -/
section
variable {M0 M : sm_M} {L LM LM' env : List Ty} {d e h k n nE : Nat} {x : Int32}
theorem zX.at {D : Nat} {t : Ty} (hX : zX M0 LM LM' env D M) (hp : ty_pr LM' x (some t)) : ∃ i, LM'[i]? = some t ∧ x = nI i ∧ i < 3000 := by
  rcases hp with ⟨q, -⟩ | ⟨i, u, q, hi, hx⟩
  · cases q
  · have hl := (List.getElem?_eq_some_iff.mp hi).1
    have := hX.1.1
    exact ⟨i, by rw [Option.some.inj q]; exact hi, hx, by omega⟩
theorem z_half (hE : nE ≤ 40) (hi : zI M0 L LM nE n) (hL : tyC L) (hok : ∀ u ∈ L, tyok u) (hs : ∀ u ∈ env, tyS L u) (hd : d + (n + 1) ≤ 60) (hX : zX M0 LM LM' env (d + 1) M) (h18 : M 18 d = nI e) (he : e < nE) (h19 : M 19 d = nI 0) (hk : M0 12 e = nI k) (kk : k = 9 ∨ k = 10) (px : zE M0 e h (M0 14 e)) (hh : h ≤ n + 1) (hl16 : env.length + 2 * n ≤ 16) (hl : LM'.length + 3 * pw n < 3000) : zQ M0 LM (fun t => (k = 9 ∧ ∃ b, zT M0 L n env (xN (M0 14) e) (tyP t b)) ∨ (k = 10 ∧ ∃ a, zT M0 L n env (xN (M0 14) e) (tyP a t))) (3 * pw n) LM' env d M := by
  have hp : tPn k = 1 := by rcases kk with rfl | rfl <;> rfl
  rcases z_1st hE hi hs hd hX h18 he h19 hk (by omega) (by omega) (by omega) px hh hl16 (by omega) with ⟨t1, K1, M1, hT1, hS1, hK1⟩ | ⟨hno, hW⟩
  · have hX1 := hS1.2.1
    obtain ⟨i, hit, h22, hi3⟩ := hX1.at hS1.2.2.1
    have hn1 := z_ph1d (by omega) hX1 hS1.2.2.2.1 (by omega) hS1.2.2.2.2.1 hk (by omega) h22 hi3
    rw [if_neg (show ¬ k = 7 by omega)] at hn1
    have hkd := (hX1.kind2 hL hit (pT_S hL _ _ _ _ hs hT1) hok).2
    by_cases g1 : ∃ a b, t1 = tyP a b
    · rw [if_pos (hkd.mpr g1), z_112b (by omega) (by omega)] at hn1
      obtain ⟨a, b, rfl⟩ := g1
      obtain ⟨-, r2, r3, r4, -⟩ := hX1.1.row hit
      have hXN := zN1_X (d := d) hX1
      have ki : ∀ {ρ : Type} {q : Option ρ}, sm_ck (nI i) 3000 q = q := ck_nI hi3 (by decide)
      have ci : (nI i).toNatClampNeg = i := nI_clamp (by omega)
      have e22 : sm_up (zN1 M1 d) 1 20 (nI d) 1 22 = nI i := by rw [up_as (by decide), zN1_o (by decide) (by decide)]; exact h22
      have e3 : sm_up (zN1 M1 d) 1 20 (nI d) 3 = M1 3 := by rw [up_ne (by decide), zN1_o (by decide) (by decide)]
      have e4 : sm_up (zN1 M1 d) 1 20 (nI d) 4 = M1 4 := by rw [up_ne (by decide), zN1_o (by decide) (by decide)]
      have hn2 : jR_typeNext [] M1 = some (1, [], sm_up (sm_up (zN1 M1 d) 1 20 (nI d)) 1 22 (if k = 9 then M1 3 i else M1 4 i)) := by
        rw [hn1]
        unfold jR_typeNext_142 jR_typeNext_571 jR_typeNext_574
        simp only [sm_wr]
        rw [hp, if_neg (show ¬ nI 1 < nI 1 by decide), hXN.2.2.2.1, nI_pred, e22, ki, ki, ci, e3, e4]
        rcases kk with rfl | rfl
        · rw [if_neg (show ¬ nI 9 = 0 by decide), if_neg (show ¬ nI 9 = 1 by decide), if_neg (show ¬ nI 9 = 2 by decide), if_neg (show ¬ nI 9 = 3 by decide), if_neg (show ¬ nI 9 = 4 by decide), if_neg (show ¬ nI 9 = 5 by decide), if_neg (show ¬ nI 9 = 6 by decide), if_neg (show ¬ nI 9 = 7 by decide), if_neg (show ¬ nI 9 = 8 by decide), if_pos (show nI 9 = 9 from rfl), bo_1, if_pos (show (9 : Nat) = 9 from rfl)]
        · rw [if_neg (show ¬ nI 10 = 0 by decide), if_neg (show ¬ nI 10 = 1 by decide), if_neg (show ¬ nI 10 = 2 by decide), if_neg (show ¬ nI 10 = 3 by decide), if_neg (show ¬ nI 10 = 4 by decide), if_neg (show ¬ nI 10 = 5 by decide), if_neg (show ¬ nI 10 = 6 by decide), if_neg (show ¬ nI 10 = 7 by decide), if_neg (show ¬ nI 10 = 8 by decide), if_neg (show ¬ nI 10 = 9 by decide), bo_1, if_neg (show ¬ (10 : Nat) = 9 by decide)]
      obtain ⟨a1, a2, a3⟩ := z_lv2 (x := if k = 9 then M1 3 i else M1 4 i) hXN rfl
      rcases kk with rfl | rfl
      · refine hS1.done (K := []) (u := a) (by omega) (by rw [List.append_nil]; omega) hn2 (Or.inl ⟨rfl, b, hT1⟩) (by rw [List.append_nil]; exact a1) (a2.trans zN1_F) ?_
        rw [List.append_nil, a3, if_pos rfl]; exact r3
      · refine hS1.done (K := []) (u := b) (by omega) (by rw [List.append_nil]; omega) hn2 (Or.inr ⟨rfl, a, hT1⟩) (by rw [List.append_nil]; exact a1) (a2.trans zN1_F) ?_
        rw [List.append_nil, a3, if_neg (by decide)]; exact r4
    · rw [if_neg (fun q => g1 (hkd.mp q))] at hn1
      refine zQ.fail (fun t q => g1 ?_) (hS1.fail (by omega) (by omega) hn1 (u19_X (d := d) hX1).1 (u19_F (m := 0)).1)
      rcases q with ⟨-, b, q⟩ | ⟨-, a, q⟩
      · exact ⟨t, b, pT_fn _ _ _ _ _ hT1 q⟩
      · exact ⟨a, t, pT_fn _ _ _ _ _ hT1 q⟩
  · refine zQ.fail (fun t q => ?_) (hW.mono (by omega))
    rcases q with ⟨-, b, q⟩ | ⟨-, a, q⟩
    · exact hno _ q
    · exact hno _ q
theorem z_call (hE : nE ≤ 40) (hi : zI M0 L LM nE n) (hL : tyC L) (hok : ∀ u ∈ L, tyok u) (hs : ∀ u ∈ env, tyS L u) (hd : d + (n + 1) ≤ 60) (hX : zX M0 LM LM' env (d + 1) M) (h18 : M 18 d = nI e) (he : e < nE) (h19 : M 19 d = nI 0) (hk : M0 12 e = nI 7) (px : zE M0 e h (M0 14 e)) (py : zE M0 e h (M0 15 e)) (hh : h ≤ n + 1) (hl16 : env.length + 2 * n ≤ 16) (hl : LM'.length + 3 * pw n < 3000) : zQ M0 LM (fun t => ∃ a, zT M0 L n env (xN (M0 14) e) (tyF a t) ∧ zT M0 L n env (xN (M0 15) e) a) (3 * pw n) LM' env d M := by
  rcases z_1st hE hi hs hd hX h18 he h19 hk (by omega) (by decide) (by omega) px hh hl16 (by omega) with ⟨t1, K1, M1, hT1, hS1, hK1⟩ | ⟨hno, hW⟩
  · have hX1 := hS1.2.1
    obtain ⟨i, hit, h22, hi3⟩ := hX1.at hS1.2.2.1
    have hn1 := z_ph1d (by omega) hX1 hS1.2.2.2.1 (by omega) hS1.2.2.2.2.1 hk (by omega) h22 hi3
    rw [if_pos (show (7 : Nat) = 7 from rfl)] at hn1
    have hkd := (hX1.kind2 hL hit (pT_S hL _ _ _ _ hs hT1) hok).1
    by_cases g1 : ∃ a b, t1 = tyF a b
    · rw [if_pos (hkd.mpr g1), z_112a (by omega) hX1 (by omega) (by omega) (by decide) (by omega)] at hn1
      obtain ⟨a, b, rfl⟩ := g1
      have hlen := List.length_append (as := LM') (bs := K1)
      rcases z_2nd hE hi hs hd hX1 hS1.2.2.2.1 he hn1 py hh hl16 (by omega) with ⟨t2, K2, M2, hT2, hS2, hK2⟩ | ⟨hno, hW⟩
      · have hS := hS1.then hS2
        have hX2 := hS.2.1
        have hn2 := z_ph2 (by omega) hX2 hS.2.2.2.1 (by omega) hS.2.2.2.2.1 hk (by omega)
        have hXN := zN2_X (d := d) hX2
        have hit2 : (LM' ++ K1 ++ K2)[i]? = some (tyF a b) := by rw [List.getElem?_append_left (List.getElem?_eq_some_iff.mp hit).1]; exact hit
        obtain ⟨-, r2, r3, r4, -⟩ := hX2.1.row hit2
        have kd : ∀ {ρ : Type} {q : Option ρ}, sm_ck (nI d) 64 q = q := ck_nI (by omega) (by decide)
        have cd : (nI d).toNatClampNeg = d := nI_clamp (by omega)
        have ki : ∀ {ρ : Type} {q : Option ρ}, sm_ck (nI i) 3000 q = q := ck_nI hi3 (by decide)
        have ci : (nI i).toNatClampNeg = i := nI_clamp (by omega)
        have e22 : sm_up (zN2 M2 d) 1 20 (nI d) 1 22 = M2 1 22 := by rw [up_as (by decide), zN2_o (by decide) (by decide)]
        have e20 : sm_up (zN2 M2 d) 1 20 (nI d) 20 d = nI i := by rw [up_ne (by decide), zN2_20]; exact hS.2.2.2.2.2.1.trans h22
        have e3 : sm_up (zN2 M2 d) 1 20 (nI d) 3 = M2 3 := by rw [up_ne (by decide), zN2_o (by decide) (by decide)]
        have e4 : sm_up (zN2 M2 d) 1 20 (nI d) 4 = M2 4 := by rw [up_ne (by decide), zN2_o (by decide) (by decide)]
        have hn3 : jR_typeNext [] M2 = if M2 1 22 = M2 3 i then some (1, [], sm_up (sm_up (zN2 M2 d) 1 20 (nI d)) 1 22 (M2 4 i)) else some (0, [], sm_up (sm_up (zN2 M2 d) 1 20 (nI d)) 1 22 (M2 4 i)) := by
          rw [hn2]
          unfold jR_typeNext_142 jR_typeNext_499 jR_typeNext_574
          simp only [sm_wr]
          rw [if_neg (show ¬ nI 2 < nI (tPn 7) by decide), hXN.2.2.2.1, nI_pred, if_neg (show ¬ nI 7 = 0 by decide), if_neg (show ¬ nI 7 = 1 by decide), if_neg (show ¬ nI 7 = 2 by decide), if_neg (show ¬ nI 7 = 3 by decide), if_neg (show ¬ nI 7 = 4 by decide), if_neg (show ¬ nI 7 = 5 by decide), if_neg (show ¬ nI 7 = 6 by decide), if_pos (show nI 7 = 7 from rfl)]
          simp only [kd, cd, e20, ki, ci, e22, e3, e4]
          rw [bo_1, bo_0]
        obtain ⟨a1, a2, a3⟩ := z_lv2 (x := M2 4 i) hXN rfl
        have hl2 := hX2.1.1
        have nd := hX2.1.2.2.1
        have hp2 := hS.2.2.1
        have hlK : (K1 ++ K2).length ≤ 3 * pw n := by rw [List.length_append]; omega
        by_cases g2 : t2 = a
        · subst g2
          rw [if_pos (ty_pr.inj nd hp2 r3)] at hn3
          rw [List.append_assoc] at hS a1 r4
          refine hS.done (K := []) (u := b) (by omega) (by rw [List.append_nil]; exact hlK) hn3 ⟨t2, hT1, hT2⟩ ?_ (a2.trans zN2_F) ?_
          · rw [List.append_nil]; exact a1
          · rw [List.append_nil, a3]; exact r4
        · rw [if_neg (fun q => g2 (by rw [q] at hp2; exact Option.some.inj (ty_pr.fn (by omega) hp2 r3)))] at hn3
          rw [List.append_assoc] at hS a1
          refine zQ.fail (fun t q => g2 ?_) (hS.fail (by omega) hlK hn3 a1.1 (a2.1.trans (zN2_F (m := 0)).1))
          obtain ⟨u, q1, q2⟩ := q
          rw [(tyF_inj (pT_fn _ _ _ _ _ hT1 q1)).1, pT_fn _ _ _ _ _ hT2 q2]
      · refine zQ.fail (fun t q => ?_) (hS1.thenW hW (by omega))
        obtain ⟨u, q1, q2⟩ := q
        exact hno _ q2
    · rw [if_neg (fun q => g1 (hkd.mp q))] at hn1
      refine zQ.fail (fun t q => g1 ?_) (hS1.fail (by omega) (by omega) hn1 (u19_X (d := d) hX1).1 (u19_F (m := 0)).1)
      obtain ⟨u, q1, q2⟩ := q
      exact ⟨u, t, pT_fn _ _ _ _ _ hT1 q1⟩
  · refine zQ.fail (fun t q => ?_) (hW.mono (by omega))
    obtain ⟨u, q1, q2⟩ := q
    exact hno _ q1
theorem z_pair (hE : nE ≤ 40) (hi : zI M0 L LM nE n) (hs : ∀ u ∈ env, tyS L u) (hd : d + (n + 1) ≤ 60) (hX : zX M0 LM LM' env (d + 1) M) (h18 : M 18 d = nI e) (he : e < nE) (h19 : M 19 d = nI 0) (hk : M0 12 e = nI 8) (px : zE M0 e h (M0 14 e)) (py : zE M0 e h (M0 15 e)) (hh : h ≤ n + 1) (hl16 : env.length + 2 * n ≤ 16) (hl : LM'.length + 2 * pw n + 1 < 3000) : zQ M0 LM (fun t => ∃ a b, t = tyP a b ∧ zT M0 L n env (xN (M0 14) e) a ∧ zT M0 L n env (xN (M0 15) e) b) (2 * pw n + 1) LM' env d M := by
  rcases z_1st hE hi hs hd hX h18 he h19 hk (by omega) (by decide) (by omega) px hh hl16 (by omega) with ⟨t1, K1, M1, hT1, hS1, hK1⟩ | ⟨hno, hW⟩
  · have hX1 := hS1.2.1
    have hn1 := z_ph1c (by omega) hX1 hS1.2.2.2.1 (by omega) hS1.2.2.2.2.1 hk (by omega) (by omega) (by omega) (by omega)
    rw [z_112a (by omega) hX1 (by omega) (by omega) (by decide) (by omega)] at hn1
    have hlen := List.length_append (as := LM') (bs := K1)
    rcases z_2nd hE hi hs hd hX1 hS1.2.2.2.1 he hn1 py hh hl16 (by omega) with ⟨t2, K2, M2, hT2, hS2, hK2⟩ | ⟨hno, hW⟩
    · have hp1 : ty_pr (LM' ++ K1 ++ K2) (M1 1 22) (some t1) := hS1.2.2.1.grow
      have hS := hS1.then hS2
      have hX2 := hS.2.1
      have hn2 := z_ph2 (by omega) hX2 hS.2.2.2.1 (by omega) hS.2.2.2.2.1 hk (by omega)
      have hXN := zN2_X (d := d) hX2
      have kd : ∀ {ρ : Type} {q : Option ρ}, sm_ck (nI d) 64 q = q := ck_nI (by omega) (by decide)
      have cd : (nI d).toNatClampNeg = d := nI_clamp (by omega)
      have e22 : sm_up (zN2 M2 d) 1 20 (nI d) 1 22 = M2 1 22 := by rw [up_as (by decide), zN2_o (by decide) (by decide)]
      have e20 : sm_up (zN2 M2 d) 1 20 (nI d) 20 d = M1 1 22 := by rw [up_ne (by decide), zN2_20]; exact hS.2.2.2.2.2.1
      obtain ⟨a1, a2, a3⟩ := z_lv1 hXN rfl
      have hn3 : jR_typeNext [] M2 = sm_bi (jR_find (nI 1) (M1 1 22) (M2 1 22) (-1) [] (sm_up (zN2 M2 d) 1 20 (nI d))) (fun x2 E2 M2 => sm_dq E2 [] (some (1, [], sm_up M2 1 22 x2))) := by
        rw [hn2]
        unfold jR_typeNext_142 jR_typeNext_574
        simp only [sm_wr]
        rw [if_neg (show ¬ nI 2 < nI (tPn 8) by decide), hXN.2.2.2.1, nI_pred, if_neg (show ¬ nI 8 = 0 by decide), if_neg (show ¬ nI 8 = 1 by decide), if_neg (show ¬ nI 8 = 2 by decide), if_neg (show ¬ nI 8 = 3 by decide), if_neg (show ¬ nI 8 = 4 by decide), if_neg (show ¬ nI 8 = 5 by decide), if_neg (show ¬ nI 8 = 6 by decide), if_neg (show ¬ nI 8 = 7 by decide), if_pos (show nI 8 = 8 from rfl)]
        simp only [kd, cd, e20, e22, bo_1]
        rfl
      have hp2 := hS.2.2.1
      have hlen2 := List.length_append (as := LM' ++ K1) (bs := K2)
      obtain ⟨b1, b2, b3, b4, b5, b6, b7⟩ := a1
      rcases r_find (D := []) (n := 1) b1 (by decide) hp1 hp2 (Or.inl ⟨rfl, rfl⟩) (by omega) with ⟨r, hr, hj⟩ | ⟨hnew, M3, hj, hT3, ho1, hoq⟩
      · rw [hj, bi_some, dq_self] at hn3
        obtain ⟨c1, c2, c3⟩ := z_lv2 (x := nI r) hXN rfl
        rw [List.append_assoc] at hS c1 hr
        refine hS.done (K := []) (u := tyP t1 t2) (by omega) (by rw [List.append_nil, List.length_append]; omega) hn3 ⟨t1, t2, rfl, hT1, hT2⟩ ?_ (c2.trans zN2_F) ?_
        · rw [List.append_nil]; exact c1
        · rw [List.append_nil, c3]; exact Or.inr ⟨r, _, rfl, hr, rfl⟩
      · rw [hj, bi_some, dq_self] at hn3
        have oq : ∀ q, 6 < q → sm_up M3 1 22 (nI (LM' ++ K1 ++ K2).length) q = zN2 M2 d q := fun q hq => by rw [up_ne (by omega), hoq q hq, up_ne (by omega)]
        have o1 : ∀ j, j ≠ 1 → j ≠ 22 → sm_up M3 1 22 (nI (LM' ++ K1 ++ K2).length) 1 j = sm_up (zN2 M2 d) 1 20 (nI d) 1 j := fun j h1 h22 => by rw [up_as h22, ho1 j h1]
        obtain ⟨K0, hK0⟩ := hXN.2.1
        obtain ⟨c1, c2⟩ := z_lv (M0 := M0) (LM := LM) (env := env) (d := d) (m := env.length) (M := zN2 M2 d) (M' := sm_up M3 1 22 (nI (LM' ++ K1 ++ K2).length)) (LM2 := LM' ++ K1 ++ K2 ++ [tyP t1 t2]) (tabM_o (fun q a b => up_ne (by omega)) (up_as (by decide)) hT3) ⟨K0 ++ [tyP t1 t2], by rw [hK0, List.append_assoc]⟩ b3 (by rw [o1 20 (by decide) (by decide)]; exact b4) (by rw [o1 21 (by decide) (by decide)]; exact b5) (fun j t hj => (hXN.2.2.2.2.2.1 j t hj).grow) hXN.2.2.2.2.2.2 (fun q a _ _ _ => oq q a) (fun j _ => ⟨by rw [oq 19 (by decide)], by rw [oq 20 (by decide)], by rw [oq 21 (by decide)]⟩) (fun j a b _ c => by rw [o1 j a c, up_as b])
        rw [show LM' ++ K1 ++ K2 = LM' ++ (K1 ++ K2) from List.append_assoc _ _ _] at hS c1 c2 hn3
        refine hS.done (K := [tyP t1 t2]) (u := tyP t1 t2) (by omega) (by rw [List.length_append, List.length_append]; show K1.length + K2.length + 1 ≤ _; omega) hn3 ⟨t1, t2, rfl, hT1, hT2⟩ c1 (c2.trans zN2_F) ?_
        refine Or.inr ⟨(LM' ++ (K1 ++ K2)).length, _, rfl, ?_, ?_⟩
        · rw [List.getElem?_append_right (Nat.le_refl _), Nat.sub_self]; rfl
        · rw [up_at]
    · refine zQ.fail (fun t q => ?_) (hS1.thenW hW (by omega))
      obtain ⟨a, b, -, q1, q2⟩ := q
      exact hno _ q2
  · refine zQ.fail (fun t q => ?_) (hW.mono (by omega))
    obtain ⟨a, b, -, q1, q2⟩ := q
    exact hno _ q1
end
