/-! the class's typing: calls and parts of pairs -/
section
variable {M0 M : sm_M} {L L' env : List Ty} {D : sm_D} {x : Int32} {rec : Int32 → sm_D → sm_M → Option sm_S} {n nE e : Nat}
/-- what a row of the table says -/
theorem y_row (hX : yX M0 L L' env M) {i : Nat} {t : Ty} (hi : L'[i]? = some t) : (M 2 i = 2 ↔ ∃ a b, t = tyF a b) ∧ (M 2 i = 1 ↔ ∃ a b, t = tyP a b) := by
  have hok := hX.2.2.2.2.2.2 t (List.mem_of_getElem? hi)
  have key : ∀ {m : Nat} {o1 o2 o3 : Option Ty}, t = ty_mk m o1 o2 o3 → M 2 i = nI m ∧ m < 5 := by
    intro m o1 o2 o3 e
    rw [e] at hi
    obtain ⟨h1, h2, -⟩ := hX.1.row hi
    exact ⟨h2, h1⟩
  have inj : ∀ {m : Nat}, m < 5 → (nI m = 2 ↔ m = 2) ∧ (nI m = 1 ↔ m = 1) := fun hm => ⟨⟨fun q => nI_inj (by omega) (by decide) (show nI _ = nI 2 from q), fun q => by rw [q]; rfl⟩, ⟨fun q => nI_inj (by omega) (by decide) (show nI _ = nI 1 from q), fun q => by rw [q]; rfl⟩⟩
  rcases hok with e | ⟨a, b, e⟩ | ⟨a, b, e⟩ | ⟨a, e⟩ | ⟨o1, o2, o3, e⟩
  all_goals
    obtain ⟨k1, k2⟩ := key e
    rw [k1, (inj k2).1, (inj k2).2]
    refine ⟨⟨fun q => ?_, fun q => ?_⟩, ⟨fun q => ?_, fun q => ?_⟩⟩
    all_goals first
      | exact ⟨a, b, e⟩
      | rfl
      | exact absurd q (by decide)
      | (obtain ⟨c, d, q⟩ := q; exact absurd (ty_mk_inj (e.symm.trans q)).1 (by decide))
theorem y_call (hE : nE ≤ 40) (hr : yP M0 L nE D n rec) (hX : yX M0 L L' env M) (he : e < nE) {h : Nat} (hh : h ≤ n + 1) (px : exP M0 e h (M0 12 e)) (py : exP M0 e h (M0 13 e)) (hn : env.length + 2 * n ≤ 16) (hl : L'.length + 2 * pw n < 800) : yQ M0 L (fun t => ∃ a, pT (M0 10) (M0 11) (M0 12) (M0 13) (M0 14) L n env (xN (M0 12) e) (tyF a t) ∧ pT (M0 10) (M0 11) (M0 12) (M0 13) (M0 14) L n env (xN (M0 13) e) a) (pw n + (pw n + 0)) L' env M D (jY_ofCall rec (nI e) D M) := by
  have ke : ∀ {ρ : Type} {q : Option ρ}, sm_ck (nI e) 40 q = q := ck_nI (by omega) (by decide)
  have ce : (nI e).toNatClampNeg = e := nI_clamp (by omega)
  have e12 := hX.2.2.2.2.2.1 12 (by decide) (by decide)
  unfold jY_ofCall
  rw [ke, ce, e12]
  refine (y_part hE hr hX he hh rfl px hn (by omega)).bi (fun x1 K1 M1 hK1 hX1 hR1 => ?_)
  by_cases g1 : x1 = -1
  · rw [g1, j_kindOf_m1, bi_some, dq_self, if_neg (show ¬ (-1 : Int32) = 2 by decide)]
    refine yQ.ret hX1 (yR.no (fun t q => ?_))
    obtain ⟨a, q1, -⟩ := q
    exact (hR1.m1 hX1.lt).mp g1 _ q1
  · obtain ⟨i, t, hi, rfl, hP⟩ := hR1.at g1
    rw [j_kindOf hX1.1 hi, bi_some, dq_self]
    by_cases g2 : M1 2 i = 2
    · obtain ⟨a, b, rfl⟩ := (y_row hX1 hi).1.mp g2
      have e13 := hX1.2.2.2.2.2.1 13 (by decide) (by decide)
      rw [if_pos g2, ke, e13]
      refine (y_part hE hr hX1 he hh rfl py hn (by rw [List.length_append]; omega)).bi (fun x3 K3 M3 hK3 hX3 hR3 => ?_)
      have hi3 : (L' ++ K1 ++ K3)[i]? = some (tyF a b) := by rw [List.getElem?_append_left (List.getElem?_eq_some_iff.mp hi).1]; exact hi
      obtain ⟨-, -, r1, r2, -⟩ := hX3.1.row hi3
      rw [j_firstOf hX3.1 hi3, bi_some, dq_self]
      rcases r1 with ⟨z, -⟩ | ⟨ia, a', za, ha, ea⟩
      · cases z
      · have := Option.some.inj za
        subst this
        have fn : ∀ u u', (∃ c, pT (M0 10) (M0 11) (M0 12) (M0 13) (M0 14) L n env (xN (M0 12) e) (tyF c u) ∧ pT (M0 10) (M0 11) (M0 12) (M0 13) (M0 14) L n env (xN (M0 13) e) c) → (∃ c, pT (M0 10) (M0 11) (M0 12) (M0 13) (M0 14) L n env (xN (M0 12) e) (tyF c u') ∧ pT (M0 10) (M0 11) (M0 12) (M0 13) (M0 14) L n env (xN (M0 13) e) c) → u = u' := by
          rintro u u' ⟨c, q1, -⟩ ⟨c', q2, -⟩
          exact (tyF_inj (pT_fn _ _ _ _ _ q1 q2)).2
        rw [ea]
        by_cases g3 : x3 = nI ia
        · rw [if_pos g3, j_secondOf hX3.1 hi3, bi_some, dq_self]
          exact yQ.ret hX3 (yR.of fn ⟨a, hP, (hR3.is hX3.nd hX3.lt ha).mp g3⟩ r2)
        · rw [if_neg g3]
          refine yQ.ret hX3 (yR.no (fun u q => ?_))
          obtain ⟨c, q1, q2⟩ := q
          have := (tyF_inj (pT_fn _ _ _ _ _ hP q1)).1
          subst this
          exact g3 ((hR3.is hX3.nd hX3.lt ha).mpr q2)
    · rw [if_neg g2]
      refine yQ.ret hX1 (yR.no (fun u q => ?_))
      obtain ⟨c, q1, -⟩ := q
      exact g2 ((y_row hX1 hi).1.mpr ⟨c, u, pT_fn _ _ _ _ _ hP q1⟩)
theorem y_half (hE : nE ≤ 40) (hr : yP M0 L nE D n rec) (hX : yX M0 L L' env M) (he : e < nE) {h k : Nat} (hh : h ≤ n + 1) (px : exP M0 e h (M0 12 e)) (hk : M0 10 e = nI k) (hk2 : k = 9 ∨ k = 10) (hn : env.length + 2 * n ≤ 16) (hl : L'.length + pw n < 800) : yQ M0 L (fun t => (k = 9 ∧ ∃ b, pT (M0 10) (M0 11) (M0 12) (M0 13) (M0 14) L n env (xN (M0 12) e) (tyP t b)) ∨ (k = 10 ∧ ∃ a, pT (M0 10) (M0 11) (M0 12) (M0 13) (M0 14) L n env (xN (M0 12) e) (tyP a t))) (pw n + 0) L' env M D (jY_ofPart rec (nI e) D M) := by
  have ke : ∀ {ρ : Type} {q : Option ρ}, sm_ck (nI e) 40 q = q := ck_nI (by omega) (by decide)
  have ce : (nI e).toNatClampNeg = e := nI_clamp (by omega)
  have e12 := hX.2.2.2.2.2.1 12 (by decide) (by decide)
  unfold jY_ofPart
  rw [ke, ce, e12]
  refine (y_part hE hr hX he hh rfl px hn (by omega)).bi (fun x1 K1 M1 hK1 hX1 hR1 => ?_)
  by_cases g1 : x1 = -1
  · rw [g1, j_kindOf_m1, bi_some, dq_self, if_neg (show ¬ (-1 : Int32) = 1 by decide)]
    refine yQ.ret hX1 (yR.no (fun t q => ?_))
    rcases q with ⟨-, b, q⟩ | ⟨-, b, q⟩
    · exact (hR1.m1 hX1.lt).mp g1 _ q
    · exact (hR1.m1 hX1.lt).mp g1 _ q
  · obtain ⟨i, t, hi, rfl, hP⟩ := hR1.at g1
    have e10 := hX1.2.2.2.2.2.1 10 (by decide) (by decide)
    rw [j_kindOf hX1.1 hi, bi_some, dq_self]
    by_cases g2 : M1 2 i = 1
    · obtain ⟨a, b, rfl⟩ := (y_row hX1 hi).2.mp g2
      obtain ⟨-, -, r1, r2, -⟩ := hX1.1.row hi
      rw [if_pos g2, ke, e10, hk]
      rcases hk2 with rfl | rfl
      · rw [if_pos (show nI 9 = 9 from rfl), j_firstOf hX1.1 hi, bi_some, dq_self]
        refine yQ.ret hX1 (yR.of ?_ (Or.inl ⟨rfl, b, hP⟩) r1)
        rintro u u' (⟨-, c, q1⟩ | ⟨z, -⟩) (⟨-, c', q2⟩ | ⟨z, -⟩)
        · exact (tyP_inj (pT_fn _ _ _ _ _ q1 q2)).1
        · exact absurd z (by decide)
        · exact absurd z (by decide)
        · exact absurd z (by decide)
      · rw [if_neg (show ¬ nI 10 = 9 by decide), j_secondOf hX1.1 hi, bi_some, dq_self]
        refine yQ.ret hX1 (yR.of ?_ (Or.inr ⟨rfl, a, hP⟩) r2)
        rintro u u' (⟨z, -⟩ | ⟨-, c, q1⟩) (⟨z, -⟩ | ⟨-, c', q2⟩)
        · exact absurd z (by decide)
        · exact absurd z (by decide)
        · exact absurd z (by decide)
        · exact (tyP_inj (pT_fn _ _ _ _ _ q1 q2)).2
    · rw [if_neg g2]
      refine yQ.ret hX1 (yR.no (fun u q => ?_))
      rcases q with ⟨-, c, q⟩ | ⟨-, c, q⟩
      · exact g2 ((y_row hX1 hi).2.mpr ⟨u, c, pT_fn _ _ _ _ _ hP q⟩)
      · exact g2 ((y_row hX1 hi).2.mpr ⟨c, u, pT_fn _ _ _ _ _ hP q⟩)
end
