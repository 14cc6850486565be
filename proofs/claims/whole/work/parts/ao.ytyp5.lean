/-! the class's typing, all -/
section
variable {M0 M : sm_M} {L L' env : List Ty} {D : sm_D} {P : Ty → Prop} {x : Int32} {n nE e b : Nat} {j : Option sm_S}
theorem yQ.wrap (h : yQ M0 L P b L' env M D j) : yQ M0 L P b L' env M D (sm_bi j (fun x E M' => sm_dq E D (some (x, D, M')))) := by
  obtain ⟨x, K1, M1, rfl, h2⟩ := h
  exact ⟨x, K1, M1, by rw [bi_some, dq_self], h2⟩
theorem y_all (hE : nE ≤ 40) (hI : ∀ i, i < nE → exI L M0 i) : ∀ n : Nat, yP M0 L nE D n (jY_find n) := by
  intro n
  induction n with
  | zero =>
    intro env e M L' hX he hg hn hl
    obtain ⟨g, hg1, hg2⟩ := hg
    obtain ⟨k, h, a1, a2, a3, a4, a5, -⟩ := hI e he
    have := nI_inj (by omega) (by omega) (hg1.symm.trans a5)
    omega
  | succ n ih =>
    intro env e M L' hX he hg hn hl
    obtain ⟨g, hg1, hg2⟩ := hg
    obtain ⟨k, h, a1, hk, a3, a4, a5, px, py, pz, pv, pf⟩ := hI e he
    have eh := nI_inj (by omega) (by omega) (hg1.symm.trans a5)
    subst eh
    have w3 := pw_3 n
    have ke : ∀ {ρ : Type} {q : Option ρ}, sm_ck (nI e) 40 q = q := ck_nI (by omega) (by decide)
    have ce : (nI e).toNatClampNeg = e := nI_clamp (by omega)
    have e10 : M 10 = M0 10 := hX.2.2.2.2.2.1 10 (by decide) (by decide)
    have e11 : M 11 = M0 11 := hX.2.2.2.2.2.1 11 (by decide) (by decide)
    have hn' : env.length + 2 * n ≤ 16 := by omega
    show yQ M0 L _ _ L' env M D (jY_find0 (jY_find n) (nI e) D M)
    unfold jY_find0
    rw [ke, ce, e10, hk]
    match k, a1 with
    | 0, _ =>
      rw [if_pos (show nI 0 = 0 from nI_0)]
      refine yQ.ret hX (yR.of (pT_fn _ _ _) ((pT_k hk (by decide)).mpr (Or.inl ⟨rfl, rfl⟩)) (Or.inr ⟨0, tyN, rfl, hX.tn, nI_0.symm⟩))
    | 1, _ =>
      obtain ⟨v, hv, ev⟩ := pv rfl
      have hx : xN (M0 11) e = v := by unfold xN; rw [ev]; exact nI_clamp (by omega)
      have h3 := hX.2.2.2.1
      rw [if_neg (show ¬ nI 1 = 0 by decide), if_pos (show nI 1 = 1 from rfl), ke, e11, ev, h3]
      by_cases g1 : v < env.length
      · have ei : nI env.length - 1 - nI v = nI (env.length - 1 - v) := by
          have e1 : env.length = (env.length - 1 - v + v) + 1 := by omega
          have e2 : nI env.length - 1 = nI (env.length - 1 - v + v) := by
            conv => lhs; rw [e1]
            exact nI_pred _
          rw [e2]
          exact nI_sub _ _
        have hg' : env[v]? = some env[v] := List.getElem?_eq_getElem g1
        rw [if_pos (nI_lt g1 (by omega)), ke, ei, ck_nI (by omega) (by decide), nI_clamp (by omega)]
        exact yQ.ret hX (yR.of (pT_fn _ _ _) ((pT_k hk (by decide)).mpr (Or.inr (Or.inl ⟨rfl, by rw [hx]; exact hg'⟩))) (hX.2.2.2.2.1 v _ hg'))
      · rw [if_neg (nI_nlt (by omega) (by omega))]
        refine yQ.ret hX (yR.no (fun t q => ?_))
        rcases (pT_k hk (by decide)).mp q with ⟨z, q⟩ | ⟨z, q⟩ | ⟨z, q⟩ | ⟨z, q⟩ | ⟨z, q⟩ | ⟨z, q⟩ | ⟨z, q⟩ | ⟨z, q⟩ | ⟨z, q⟩
        · exact absurd z (by decide)
        · rw [hx] at q
          exact g1 (List.getElem?_eq_some_iff.mp q).1
        · exact absurd z (by decide)
        · exact absurd z (by decide)
        · exact absurd z (by decide)
        · exact absurd z (by decide)
        · exact absurd z (by decide)
        · exact absurd z (by decide)
        · exact absurd z (by decide)
    | 2, _ =>
      rw [if_neg (show ¬ nI 2 = 0 by decide), if_neg (show ¬ nI 2 = 1 by decide), if_pos (show nI 2 = 2 from rfl)]
      refine (yQ.mono (y_reck hE ih hX he hg2 (px (by decide)) (py (by decide)) hn' (by omega)) (by omega) (fun t => ?_)).wrap
      refine ((pT_k (n := n) hk (by decide)).trans ⟨fun q => ?_, fun q => Or.inr (Or.inr (Or.inl ⟨Or.inl rfl, q⟩))⟩).symm
      rcases q with ⟨z, q⟩ | ⟨z, q⟩ | ⟨z, q⟩ | ⟨z, q⟩ | ⟨z, q⟩ | ⟨z, q⟩ | ⟨z, q⟩ | ⟨z, q⟩ | ⟨z, q⟩ <;> first | exact absurd z (by decide) | exact q
    | 3, _ =>
      rw [if_neg (show ¬ nI 3 = 0 by decide), if_neg (show ¬ nI 3 = 1 by decide), if_neg (show ¬ nI 3 = 2 by decide), if_pos (show nI 3 = 3 from rfl)]
      refine (yQ.mono (y_reck hE ih hX he hg2 (px (by decide)) (py (by decide)) hn' (by omega)) (by omega) (fun t => ?_)).wrap
      refine ((pT_k (n := n) hk (by decide)).trans ⟨fun q => ?_, fun q => Or.inr (Or.inr (Or.inl ⟨Or.inr (Or.inl rfl), q⟩))⟩).symm
      rcases q with ⟨z, q⟩ | ⟨z, q⟩ | ⟨z, q⟩ | ⟨z, q⟩ | ⟨z, q⟩ | ⟨z, q⟩ | ⟨z, q⟩ | ⟨z, q⟩ | ⟨z, q⟩ <;> first | exact absurd z (by decide) | exact q
    | 4, _ =>
      rw [if_neg (show ¬ nI 4 = 0 by decide), if_neg (show ¬ nI 4 = 1 by decide), if_neg (show ¬ nI 4 = 2 by decide), if_neg (show ¬ nI 4 = 3 by decide), if_pos (show nI 4 = 4 from rfl)]
      refine (yQ.mono (y_reck hE ih hX he hg2 (px (by decide)) (py (by decide)) hn' (by omega)) (by omega) (fun t => ?_)).wrap
      refine ((pT_k (n := n) hk (by decide)).trans ⟨fun q => ?_, fun q => Or.inr (Or.inr (Or.inl ⟨Or.inr (Or.inr rfl), q⟩))⟩).symm
      rcases q with ⟨z, q⟩ | ⟨z, q⟩ | ⟨z, q⟩ | ⟨z, q⟩ | ⟨z, q⟩ | ⟨z, q⟩ | ⟨z, q⟩ | ⟨z, q⟩ | ⟨z, q⟩ <;> first | exact absurd z (by decide) | exact q
    | 5, _ =>
      rw [if_neg (show ¬ nI 5 = 0 by decide), if_neg (show ¬ nI 5 = 1 by decide), if_neg (show ¬ nI 5 = 2 by decide), if_neg (show ¬ nI 5 = 3 by decide), if_neg (show ¬ nI 5 = 4 by decide), if_pos (show nI 5 = 5 from rfl)]
      refine (yQ.mono (y_choice hE ih hX he hg2 (px (by decide)) (py (by decide)) (pz (by decide)) hn' (by omega)) (by omega) (fun t => ?_)).wrap
      refine ((pT_k (n := n) hk (by decide)).trans ⟨fun q => ?_, fun q => Or.inr (Or.inr (Or.inr (Or.inl ⟨rfl, q⟩)))⟩).symm
      rcases q with ⟨z, q⟩ | ⟨z, q⟩ | ⟨z, q⟩ | ⟨z, q⟩ | ⟨z, q⟩ | ⟨z, q⟩ | ⟨z, q⟩ | ⟨z, q⟩ | ⟨z, q⟩ <;> first | exact absurd z (by decide) | exact q
    | 6, _ =>
      obtain ⟨tt, ta, tb, et, htt⟩ := pf rfl
      rw [if_neg (show ¬ nI 6 = 0 by decide), if_neg (show ¬ nI 6 = 1 by decide), if_neg (show ¬ nI 6 = 2 by decide), if_neg (show ¬ nI 6 = 3 by decide), if_neg (show ¬ nI 6 = 4 by decide), if_neg (show ¬ nI 6 = 5 by decide), if_pos (show nI 6 = 6 from rfl)]
      refine (yQ.mono (y_lambda hE ih hX he hg2 (px (by decide)) et htt hn (by omega)) (by omega) (fun t => ?_)).wrap
      refine ((pT_k (n := n) hk (by decide)).trans ⟨fun q => ?_, fun q => Or.inr (Or.inr (Or.inr (Or.inr (Or.inl ⟨rfl, q⟩))))⟩).symm
      rcases q with ⟨z, q⟩ | ⟨z, q⟩ | ⟨z, q⟩ | ⟨z, q⟩ | ⟨z, q⟩ | ⟨z, q⟩ | ⟨z, q⟩ | ⟨z, q⟩ | ⟨z, q⟩ <;> first | exact absurd z (by decide) | exact q
    | 7, _ =>
      rw [if_neg (show ¬ nI 7 = 0 by decide), if_neg (show ¬ nI 7 = 1 by decide), if_neg (show ¬ nI 7 = 2 by decide), if_neg (show ¬ nI 7 = 3 by decide), if_neg (show ¬ nI 7 = 4 by decide), if_neg (show ¬ nI 7 = 5 by decide), if_neg (show ¬ nI 7 = 6 by decide), if_pos (show nI 7 = 7 from rfl)]
      refine (yQ.mono (y_call hE ih hX he hg2 (px (by decide)) (py (by decide)) hn' (by omega)) (by omega) (fun t => ?_)).wrap
      refine ((pT_k (n := n) hk (by decide)).trans ⟨fun q => ?_, fun q => Or.inr (Or.inr (Or.inr (Or.inr (Or.inr (Or.inl ⟨rfl, q⟩)))))⟩).symm
      rcases q with ⟨z, q⟩ | ⟨z, q⟩ | ⟨z, q⟩ | ⟨z, q⟩ | ⟨z, q⟩ | ⟨z, q⟩ | ⟨z, q⟩ | ⟨z, q⟩ | ⟨z, q⟩ <;> first | exact absurd z (by decide) | exact q
    | 8, _ =>
      have n1 : 1 ≤ n := by
        obtain ⟨e', g', b1, -, b3, b4⟩ := px (by decide)
        obtain ⟨k', h', -, -, c3, c4, c5, -⟩ := hI e' (by omega)
        have := nI_inj (by omega) (by omega) (b3.symm.trans c5)
        omega
      have w2 := pw_2 n1
      rw [if_neg (show ¬ nI 8 = 0 by decide), if_neg (show ¬ nI 8 = 1 by decide), if_neg (show ¬ nI 8 = 2 by decide), if_neg (show ¬ nI 8 = 3 by decide), if_neg (show ¬ nI 8 = 4 by decide), if_neg (show ¬ nI 8 = 5 by decide), if_neg (show ¬ nI 8 = 6 by decide), if_neg (show ¬ nI 8 = 7 by decide), if_pos (show nI 8 = 8 from rfl)]
      refine (yQ.mono (y_pair hE ih hX he hg2 (px (by decide)) (py (by decide)) hn' (by omega)) (by omega) (fun t => ?_)).wrap
      refine ((pT_k (n := n) hk (by decide)).trans ⟨fun q => ?_, fun q => Or.inr (Or.inr (Or.inr (Or.inr (Or.inr (Or.inr (Or.inl ⟨rfl, q⟩))))))⟩).symm
      rcases q with ⟨z, q⟩ | ⟨z, q⟩ | ⟨z, q⟩ | ⟨z, q⟩ | ⟨z, q⟩ | ⟨z, q⟩ | ⟨z, q⟩ | ⟨z, q⟩ | ⟨z, q⟩ <;> first | exact absurd z (by decide) | exact q
    | 9, _ =>
      rw [if_neg (show ¬ nI 9 = 0 by decide), if_neg (show ¬ nI 9 = 1 by decide), if_neg (show ¬ nI 9 = 2 by decide), if_neg (show ¬ nI 9 = 3 by decide), if_neg (show ¬ nI 9 = 4 by decide), if_neg (show ¬ nI 9 = 5 by decide), if_neg (show ¬ nI 9 = 6 by decide), if_neg (show ¬ nI 9 = 7 by decide), if_neg (show ¬ nI 9 = 8 by decide), if_pos (show nI 9 = 9 from rfl)]
      refine (yQ.mono (y_half hE ih hX he hg2 (px (by decide)) hk (Or.inl rfl) hn' (by omega)) (by omega) (fun t => ?_)).wrap
      refine ((pT_k (n := n) hk (by decide)).trans ⟨fun q => ?_, fun q => Or.inr (Or.inr (Or.inr (Or.inr (Or.inr (Or.inr (Or.inr q))))))⟩).symm
      rcases q with ⟨z, q⟩ | ⟨z, q⟩ | ⟨z, q⟩ | ⟨z, q⟩ | ⟨z, q⟩ | ⟨z, q⟩ | ⟨z, q⟩ | q <;> first | exact absurd z (by decide) | exact q
    | 10, _ =>
      rw [if_neg (show ¬ nI 10 = 0 by decide), if_neg (show ¬ nI 10 = 1 by decide), if_neg (show ¬ nI 10 = 2 by decide), if_neg (show ¬ nI 10 = 3 by decide), if_neg (show ¬ nI 10 = 4 by decide), if_neg (show ¬ nI 10 = 5 by decide), if_neg (show ¬ nI 10 = 6 by decide), if_neg (show ¬ nI 10 = 7 by decide), if_neg (show ¬ nI 10 = 8 by decide), if_neg (show ¬ nI 10 = 9 by decide), if_pos (show nI 10 = 10 from rfl)]
      refine (yQ.mono (y_half hE ih hX he hg2 (px (by decide)) hk (Or.inr rfl) hn' (by omega)) (by omega) (fun t => ?_)).wrap
      refine ((pT_k (n := n) hk (by decide)).trans ⟨fun q => ?_, fun q => Or.inr (Or.inr (Or.inr (Or.inr (Or.inr (Or.inr (Or.inr q))))))⟩).symm
      rcases q with ⟨z, q⟩ | ⟨z, q⟩ | ⟨z, q⟩ | ⟨z, q⟩ | ⟨z, q⟩ | ⟨z, q⟩ | ⟨z, q⟩ | q <;> first | exact absurd z (by decide) | exact q
    | k + 11, hk11 => omega
end
