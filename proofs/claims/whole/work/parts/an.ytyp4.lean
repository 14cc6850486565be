/-! the class's typing: functions, variables, all -/
section
variable {M0 M : sm_M} {L L' env : List Ty} {D : sm_D} {x : Int32} {rec : Int32 → sm_D → sm_M → Option sm_S} {n nE e : Nat}
theorem y_lambda (hE : nE ≤ 40) (hr : yP M0 L nE D n rec) (hX : yX M0 L L' env M) (he : e < nE) {h : Nat} (hh : h ≤ n + 1) (px : exP M0 e h (M0 12 e)) {tt : Nat} {a b : Ty} (h11 : M0 11 e = nI tt) (htt : L[tt]? = some (tyF a b)) (hn : env.length + 2 * (n + 1) ≤ 16) (hl : L'.length + pw n < 800) : yQ M0 L (fun t => L[xN (M0 11) e]? = some t ∧ ∃ a b, t = tyF a b ∧ pT (M0 10) (M0 11) (M0 12) (M0 13) (M0 14) L n (a :: t :: env) (xN (M0 12) e) b) (pw n) L' env M D (jY_ofLambda rec (nI e) D M) := by
  have ke : ∀ {ρ : Type} {q : Option ρ}, sm_ck (nI e) 40 q = q := ck_nI (by omega) (by decide)
  have ce : (nI e).toNatClampNeg = e := nI_clamp (by omega)
  obtain ⟨hT, ⟨K, hK⟩, h0, h3, h17, hq, hok⟩ := id hX
  have ht' := hX.pre htt
  have htl := (List.getElem?_eq_some_iff.mp ht').1
  have hlen := hT.1
  obtain ⟨-, -, r1, r2, -⟩ := hT.row ht'
  have e11 : M 11 = M0 11 := hq 11 (by decide) (by decide)
  have hx : xN (M0 11) e = tt := by unfold xN; rw [h11]; exact nI_clamp (by omega)
  have kl : ∀ {ρ : Type} {q : Option ρ}, sm_ck (nI env.length) 16 q = q := ck_nI (by omega) (by decide)
  have cl : (nI env.length).toNatClampNeg = env.length := nI_clamp (by omega)
  have kl1 : ∀ {ρ : Type} {q : Option ρ}, sm_ck (nI (env.length + 1)) 16 q = q := ck_nI (by omega) (by decide)
  have cl1 : (nI (env.length + 1)).toNatClampNeg = env.length + 1 := nI_clamp (by omega)
  have e2 : nI env.length + 2 = nI (env.length + 2) := nI_add env.length 2
  have n16 : ¬ nI 16 < nI (env.length + 2) := nI_nlt (by omega) (by decide)
  have hT1 : tabC (sm_up M 17 env.length (nI tt)) L' := tabC_o (fun q hq => up_ne (by omega)) hT
  simp only [jY_ofLambda, sm_wr, ke, ce, e11, h11, h3, kl, cl]
  rw [e2, if_neg n16, j_firstOf hT1 ht', bi_some, dq_self, up_ne (show (16 : Nat) ≠ 17 by decide), h3, nI_1, kl1, cl1, up_ne (show (3 : Nat) ≠ 17 by decide), up_ne (show (16 : Nat) ≠ 17 by decide), up_ne (show (16 : Nat) ≠ 17 by decide), h3, e2]
  have hX4 : yX M0 L L' (a :: tyF a b :: env) (sm_up (sm_up (sm_up M 17 env.length (nI tt)) 17 (env.length + 1) (M 3 tt)) 16 3 (nI (env.length + 2))) := by
    refine ⟨tabC_o (fun q hq => by rw [up_ne (by omega), up_ne (by omega), up_ne (by omega)]) hT, ⟨K, hK⟩, h0, ?_, fun j t hj => ?_, fun q a b => by rw [up_ne (by omega), up_ne (by omega), up_ne (by omega)]; exact hq q a b, hok⟩
    · rw [up_at]; rfl
    · rw [up_ne (by decide), sm_up_same, sm_up_same]
      match j, hj with
      | 0, hj =>
        have : a = t := Option.some.inj hj
        subst this
        rw [show (a :: tyF a b :: env).length - 1 - 0 = env.length + 1 from rfl, upd_at]
        exact r1
      | 1, hj =>
        have : tyF a b = t := Option.some.inj hj
        subst this
        rw [show (a :: tyF a b :: env).length - 1 - 1 = env.length from rfl, upd_ne (by omega), upd_at]
        exact Or.inr ⟨tt, _, rfl, ht', rfl⟩
      | j + 2, hj =>
        have hj' : env[j]? = some t := hj
        have hjl := (List.getElem?_eq_some_iff.mp hj').1
        have ei : (a :: tyF a b :: env).length - 1 - (j + 2) = env.length - 1 - j := by
          show env.length + 2 - 1 - (j + 2) = env.length - 1 - j
          omega
        rw [ei, upd_ne (by omega), upd_ne (by omega)]
        exact h17 j t hj'
  have e12 : (sm_up (sm_up (sm_up M 17 env.length (nI tt)) 17 (env.length + 1) (M 3 tt)) 16 3 (nI (env.length + 2))) 12 = M0 12 := hX4.2.2.2.2.2.1 12 (by decide) (by decide)
  rw [e12]
  obtain ⟨x5, K5, M5, h5, hX5, hR5, hF5, hK5⟩ := y_part hE hr hX4 he hh rfl px (by show env.length + 2 + 2 * n ≤ 16; omega) hl
  have h53 : M5 16 3 = nI (env.length + 2) := hX5.2.2.2.1
  have e53 : nI (env.length + 2) - 2 = nI env.length := nI_sub env.length 2
  have hi5 : (L' ++ K5)[tt]? = some (tyF a b) := by rw [List.getElem?_append_left htl]; exact ht'
  have hT6 : tabC (sm_up M5 16 3 (nI env.length)) (L' ++ K5) := tabC_o (fun q hq => up_ne (by omega)) hX5.1
  obtain ⟨-, -, -, s2, -⟩ := hX5.1.row hi5
  rw [h5, bi_some, dq_self, h53, e53, j_secondOf hT6 hi5, bi_some, dq_self, up_ne (show (4 : Nat) ≠ 16 by decide)]
  have low : ∀ j, j < env.length → M5 17 j = M 17 j := fun j hj => by
    rw [hF5.2 j (by show j < env.length + 2; omega), up_ne (by decide), sm_up_same, sm_up_same, upd_ne (by omega), upd_ne (by omega)]
  have hX6 : yX M0 L (L' ++ K5) env (sm_up M5 16 3 (nI env.length)) := by
    refine ⟨hT6, hX5.2.1, h0, up_at, fun j t hj => ?_, fun q a b => by rw [up_ne (by omega)]; exact hX5.2.2.2.2.2.1 q a b, hX5.2.2.2.2.2.2⟩
    have hjl := (List.getElem?_eq_some_iff.mp hj).1
    rw [up_ne (by decide), low _ (by omega)]
    exact (h17 j t hj).grow
  have hF6 : yF env.length (sm_up M5 16 3 (nI env.length)) M := by
    refine ⟨fun q a b c => ?_, fun j hj => by rw [up_ne (by decide)]; exact low j hj⟩
    rw [up_ne b, hF5.1 q a b c, up_ne b, up_ne c, up_ne c]
  have fn : ∀ u u' : Ty, (L[xN (M0 11) e]? = some u ∧ ∃ a b, u = tyF a b ∧ pT (M0 10) (M0 11) (M0 12) (M0 13) (M0 14) L n (a :: u :: env) (xN (M0 12) e) b) → (L[xN (M0 11) e]? = some u' ∧ ∃ a b, u' = tyF a b ∧ pT (M0 10) (M0 11) (M0 12) (M0 13) (M0 14) L n (a :: u' :: env) (xN (M0 12) e) b) → u = u' := fun u u' p q => Option.some.inj (p.1.symm.trans q.1)
  rcases s2 with ⟨z, -⟩ | ⟨ib, b', zb, hb, eb⟩
  · cases z
  · have := Option.some.inj zb
    subst this
    rw [eb]
    by_cases g : x5 = nI ib
    · rw [if_pos g]
      exact ⟨nI tt, K5, _, rfl, hX6, yR.of fn ⟨by rw [hx]; exact htt, a, b, rfl, (hR5.is hX5.nd hX5.lt hb).mp g⟩ (Or.inr ⟨tt, _, rfl, hi5, rfl⟩), hF6, hK5⟩
    · rw [if_neg g]
      refine ⟨-1, K5, _, rfl, hX6, yR.no (fun u q => ?_), hF6, hK5⟩
      obtain ⟨q1, c, d, q2, q3⟩ := q
      rw [hx] at q1
      have eu := Option.some.inj (htt.symm.trans q1)
      subst eu
      obtain ⟨rfl, rfl⟩ := tyF_inj q2
      exact g ((hR5.is hX5.nd hX5.lt hb).mpr q3)
end
