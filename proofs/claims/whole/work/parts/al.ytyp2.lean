/-! the class's typing, kind by kind -/
section
variable {M0 M : sm_M} {L L' env : List Ty} {D : sm_D} {x : Int32} {rec : Int32 → sm_D → sm_M → Option sm_S} {n nE e : Nat}
theorem y_choice (hE : nE ≤ 40) (hr : yP M0 L nE D n rec) (hX : yX M0 L L' env M) (he : e < nE) {h : Nat} (hh : h ≤ n + 1) (px : exP M0 e h (M0 12 e)) (py : exP M0 e h (M0 13 e)) (pz : exP M0 e h (M0 14 e)) (hn : env.length + 2 * n ≤ 16) (hl : L'.length + 3 * pw n < 800) : yQ M0 L (fun t => pT (M0 10) (M0 11) (M0 12) (M0 13) (M0 14) L n env (xN (M0 12) e) tyN ∧ pT (M0 10) (M0 11) (M0 12) (M0 13) (M0 14) L n env (xN (M0 13) e) t ∧ pT (M0 10) (M0 11) (M0 12) (M0 13) (M0 14) L n env (xN (M0 14) e) t) (pw n + (pw n + (pw n + 0))) L' env M D (jY_ofChoice rec (nI e) D M) := by
  have ke : ∀ {ρ : Type} {q : Option ρ}, sm_ck (nI e) 40 q = q := ck_nI (by omega) (by decide)
  have ce : (nI e).toNatClampNeg = e := nI_clamp (by omega)
  have e12 := hX.2.2.2.2.2.1 12 (by decide) (by decide)
  unfold jY_ofChoice
  rw [ke, ce, e12]
  refine (y_part hE hr hX he hh rfl px hn (by omega)).bi (fun x1 K1 M1 hK1 hX1 hR1 => ?_)
  by_cases g1 : x1 = 0
  · have e13 := hX1.2.2.2.2.2.1 13 (by decide) (by decide)
    rw [if_pos g1, ke, e13]
    refine (y_part hE hr hX1 he hh rfl py hn (by rw [List.length_append]; omega)).bi (fun x2 K2 M2 hK2 hX2 hR2 => ?_)
    by_cases g2 : x2 = -1
    · rw [if_pos g2]
      exact yQ.ret hX2 (yR.no (fun t q => (hR2.m1 hX2.lt).mp g2 t q.2.1))
    · have e14 := hX2.2.2.2.2.2.1 14 (by decide) (by decide)
      rw [if_neg g2, ke, e14]
      refine (y_part hE hr hX2 he hh rfl pz hn (by rw [List.length_append, List.length_append]; omega)).bi (fun x3 K3 M3 hK3 hX3 hR3 => ?_)
      obtain ⟨i, t, hi, rfl, hP⟩ := hR2.at g2
      have hi3 : (L' ++ K1 ++ K2 ++ K3)[i]? = some t := by rw [List.getElem?_append_left (List.getElem?_eq_some_iff.mp hi).1]; exact hi
      by_cases g3 : x3 = nI i
      · rw [if_pos g3]
        exact yQ.ret hX3 (yR.of (fun a b p q => pT_fn _ _ _ _ _ p.2.1 q.2.1) ⟨(hR1.n0 hX1).mp g1, hP, (hR3.is hX3.nd hX3.lt hi3).mp g3⟩ (Or.inr ⟨i, t, rfl, hi3, rfl⟩))
      · rw [if_neg g3]
        refine yQ.ret hX3 (yR.no (fun u q => ?_))
        have := pT_fn _ _ _ _ _ hP q.2.1
        subst this
        exact g3 ((hR3.is hX3.nd hX3.lt hi3).mpr q.2.2)
  · rw [if_neg g1]
    exact yQ.ret hX1 (yR.no (fun t q => g1 ((hR1.n0 hX1).mpr q.1)))
/-- a pair is found or made -/
theorem y_find (hX : yX M0 L L' env M) (hl : L'.length < 800) {i j : Nat} {t u : Ty} (hi : L'[i]? = some t) (hj : L'[j]? = some u) : yQ M0 L (fun v => v = tyP t u) 1 L' env M D (jT_find 1 (nI i) (nI j) (-1) D M) := by
  obtain ⟨hT, ⟨K, hK⟩, h0, h3, h17, hq, hok⟩ := id hX
  have key : ∀ {L2 : List Ty} {y : Int32}, ty_pr L2 y (some (tyP t u)) → yR (fun v => v = tyP t u) L2 y := fun hy => yR.of (fun a b p q => p.trans q.symm) rfl hy
  rcases j_find (D := D) (n := 1) hT (by decide) (Or.inr ⟨i, t, rfl, hi, rfl⟩) (Or.inr ⟨j, u, rfl, hj, rfl⟩) (Or.inl ⟨rfl, rfl⟩) with ⟨r, hr, hf⟩ | ⟨-, -, M', hf, hT', hfr⟩ | ⟨-, e, -⟩
  · have := yQ.ret (b := 1) (D := D) hX (key (y := nI r) (Or.inr ⟨r, _, rfl, hr, rfl⟩))
    obtain ⟨x', K', M', q1, q2⟩ := this
    exact ⟨x', K', M', (show jT_find (nI 1) (nI i) (nI j) (-1) D M = _ from hf).trans q1, q2⟩
  · refine ⟨nI L'.length, [tyP t u], M', hf, ⟨hT', ⟨K ++ [tyP t u], by rw [hK, List.append_assoc]⟩, h0, by rw [hfr 16 (by decide)]; exact h3, fun j' t' ht' => by rw [hfr 17 (by decide)]; exact (h17 j' t' ht').grow, fun q a b => (hfr q (by omega)).trans (hq q a b), fun v hv => (List.mem_append.mp hv).elim (hok v) (fun z => by rw [List.mem_singleton.mp z]; exact Or.inr (Or.inl ⟨t, u, rfl⟩))⟩, key (Or.inr ⟨L'.length, _, rfl, by simp, rfl⟩), ⟨fun q a _ _ => hfr q a, fun j' _ => by rw [hfr 17 (by decide)]⟩, Nat.le_refl _⟩
  · omega
theorem y_pair (hE : nE ≤ 40) (hr : yP M0 L nE D n rec) (hX : yX M0 L L' env M) (he : e < nE) {h : Nat} (hh : h ≤ n + 1) (px : exP M0 e h (M0 12 e)) (py : exP M0 e h (M0 13 e)) (hn : env.length + 2 * n ≤ 16) (hl : L'.length + (2 * pw n + 1) < 800) : yQ M0 L (fun t => ∃ a b, t = tyP a b ∧ pT (M0 10) (M0 11) (M0 12) (M0 13) (M0 14) L n env (xN (M0 12) e) a ∧ pT (M0 10) (M0 11) (M0 12) (M0 13) (M0 14) L n env (xN (M0 13) e) b) (pw n + (pw n + (1 + 0))) L' env M D (jY_ofPair rec (nI e) D M) := by
  have ke : ∀ {ρ : Type} {q : Option ρ}, sm_ck (nI e) 40 q = q := ck_nI (by omega) (by decide)
  have ce : (nI e).toNatClampNeg = e := nI_clamp (by omega)
  have e12 := hX.2.2.2.2.2.1 12 (by decide) (by decide)
  unfold jY_ofPair
  rw [ke, ce, e12]
  refine (y_part hE hr hX he hh rfl px hn (by omega)).bi (fun x1 K1 M1 hK1 hX1 hR1 => ?_)
  by_cases g1 : x1 = -1
  · rw [if_pos g1]
    refine yQ.ret hX1 (yR.no (fun t q => ?_))
    obtain ⟨a, b, -, q1, -⟩ := q
    exact (hR1.m1 hX1.lt).mp g1 a q1
  · have e13 := hX1.2.2.2.2.2.1 13 (by decide) (by decide)
    rw [if_neg g1, ke, e13]
    refine (y_part hE hr hX1 he hh rfl py hn (by rw [List.length_append]; omega)).bi (fun x2 K2 M2 hK2 hX2 hR2 => ?_)
    by_cases g2 : x2 = -1
    · rw [if_pos g2]
      refine yQ.ret hX2 (yR.no (fun t q => ?_))
      obtain ⟨a, b, -, -, q2⟩ := q
      exact (hR2.m1 hX2.lt).mp g2 b q2
    · rw [if_neg g2]
      obtain ⟨i, t, hi, rfl, hP⟩ := hR1.at g1
      obtain ⟨j, u, hj, rfl, hP2⟩ := hR2.at g2
      have hi2 : (L' ++ K1 ++ K2)[i]? = some t := by rw [List.getElem?_append_left (List.getElem?_eq_some_iff.mp hi).1]; exact hi
      refine (y_find hX2 (by rw [List.length_append, List.length_append]; omega) hi2 hj).bi (fun x3 K3 M3 hK3 hX3 hR3 => yQ.ret hX3 (hR3.iff (fun v => ⟨fun q => ⟨t, u, q, hP, hP2⟩, fun q => ?_⟩)))
      obtain ⟨a, b, q0, q1, q2⟩ := q
      rw [q0, pT_fn _ _ _ _ _ q1 hP, pT_fn _ _ _ _ _ q2 hP2]
end
