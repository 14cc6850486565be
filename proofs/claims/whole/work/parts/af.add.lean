/-! add: what an instruction may be -/
def ftP (L : List Ty) (f : Nat) (x : Int32) : Prop := match f with
  | 2 => reg5 x
  | 3 => blk40 x
  | 4 => x = 0 ∨ x = 1
  | 5 => ∃ (i : Nat) (t : Ty), x = nI i ∧ L[i]? = some t ∧ ((∃ a b, t = tyF a b) ∨ ∃ a, t = tyR a)
  | _ => True
def fm (o j : Nat) : Nat := tFORM.getD (3 * o + j) 0
def ftA (L : List Ty) (o : Nat) (a b c : Int32) : Prop := ftP L (fm o 0) a ∧ ftP L (fm o 1) b ∧ ftP L (fm o 2) c
def rz (P : Prop) (j : Option sm_S) (D : sm_D) (M : sm_M) : Prop := (P → j = some (1, D, M)) ∧ (¬ P → j = some (0, D, M))
theorem rz.iff {P Q : Prop} {j : Option sm_S} {D : sm_D} {M : sm_M} (h : rz P j D M) (e : P ↔ Q) : rz Q j D M := ⟨fun q => h.1 (e.mpr q), fun q => h.2 (fun r => q (e.mp r))⟩
theorem rz_bi {P Q : Prop} {j : Option sm_S} {D : sm_D} {M : sm_M} {f g : sm_M → Option sm_S} (h1 : rz P j D M) (hf : f M = some (0, D, M)) (hg : rz Q (g M) D M) : rz (P ∧ Q) (sm_bi j (fun x E M' => sm_dq E D (if x = (0 : Int32) then f M' else g M'))) D M := by
  by_cases hP : P
  · rw [h1.1 hP, bi_some, dq_self, if_neg (by decide)]
    exact hg.iff ⟨fun q => ⟨hP, q⟩, fun q => q.2⟩
  · rw [h1.2 hP, bi_some, dq_self, if_pos rfl]
    exact ⟨fun q => absurd q.1 hP, fun _ => hf⟩
theorem rz_end {P : Prop} {j : Option sm_S} {D : sm_D} {M : sm_M} (h : rz P j D M) : rz P (sm_bi j (fun x E M' => sm_dq E D (sm_bo x (some (x, D, M'))))) D M := by
  by_cases hP : P
  · rw [h.1 hP, bi_some, dq_self, bo_1]; exact ⟨fun _ => rfl, fun q => absurd hP q⟩
  · rw [h.2 hP, bi_some, dq_self, bo_0]; exact ⟨fun q => absurd q hP, fun _ => rfl⟩
theorem rz_1 {j : Option sm_S} {D : sm_D} {M : sm_M} (h : j = some (1, D, M)) : rz True j D M := ⟨fun _ => h, fun q => absurd trivial q⟩
section
variable {pV : pVt} {nB nC p d1 d3 d4 n : Nat} {L LM : List Ty} {W : Nat → Ty} {A : Nat → Option Ty} {Mc Mm N : sm_M} {D : sm_D} {k a b c x : Int32} {oa ob oc o : Option Ty}
theorem reg5_iff : reg5 x ↔ (¬ x < 1 ∧ ¬ (5 : Int32) < x) := by
  constructor
  · rintro ⟨j, h1, h2, rfl⟩
    exact ⟨nI_nlt (b := 1) h1 (by omega), nI_nlt (a := 5) h2 (by decide)⟩
  · rintro ⟨h1, h2⟩
    obtain ⟨j, hj, e⟩ := reg5_of h1 h2
    exact ⟨j, hj.1, hj.2, e⟩
theorem blk40_iff : blk40 x ↔ (¬ x < 0 ∧ x < 40) := by
  constructor
  · rintro ⟨j, h1, rfl⟩
    exact ⟨nI_pos (by omega), nI_lt (b := 40) h1 (by decide)⟩
  · rintro ⟨h1, h2⟩
    obtain ⟨j, hj, e⟩ := lt_nI (n := 40) (by decide) h1 h2
    exact ⟨j, hj, e⟩
theorem r_reg : rz (reg5 x) (jR_isRegister x D N) D N := by
  refine ⟨fun q => ?_, fun q => ?_⟩
  · obtain ⟨h1, h2⟩ := reg5_iff.mp q
    unfold jR_isRegister
    rw [if_neg h1, if_neg h2]; exact bo_1
  · unfold jR_isRegister
    by_cases h1 : x < 1
    · rw [if_pos h1]; exact bo_0
    · by_cases h2 : (5 : Int32) < x
      · rw [if_neg h1, if_pos h2]; exact bo_0
      · exact absurd (reg5_iff.mpr ⟨h1, h2⟩) q
theorem r_blk : rz (blk40 x) (jR_isBlock x D N) D N := by
  refine ⟨fun q => ?_, fun q => ?_⟩
  · obtain ⟨h1, h2⟩ := blk40_iff.mp q
    unfold jR_isBlock
    rw [if_neg h1, if_pos h2]; exact bo_1
  · unfold jR_isBlock
    by_cases h1 : x < 0
    · rw [if_pos h1]; exact bo_0
    · by_cases h2 : x < 40
      · exact absurd (blk40_iff.mpr ⟨h1, h2⟩) q
      · rw [if_neg h1, if_neg h2]; exact bo_0
theorem c_fits {f : Nat} (h : rlT L LM Mc N) (hf : f ≤ 5) : rz (ftP L f x) (jC_fits p (nI f) x D Mc) D Mc := by
  unfold jC_fits
  match f, hf with
  | 0, _ =>
    rw [if_neg (show ¬ nI 0 = 2 by decide), if_neg (show ¬ nI 0 = 3 by decide), if_neg (show ¬ nI 0 = 4 by decide), if_neg (show ¬ nI 0 = 5 by decide)]
    exact rz_1 bo_1
  | 1, _ =>
    rw [if_neg (show ¬ nI 1 = 2 by decide), if_neg (show ¬ nI 1 = 3 by decide), if_neg (show ¬ nI 1 = 4 by decide), if_neg (show ¬ nI 1 = 5 by decide)]
    exact rz_1 bo_1
  | 2, _ =>
    rw [if_pos (show nI 2 = 2 from rfl)]
    refine ⟨fun q => ?_, fun q => ?_⟩
    · obtain ⟨h1, h2⟩ := reg5_iff.mp q
      rw [if_neg h1, if_neg h2]; exact bo_1
    · by_cases h1 : x < 1
      · rw [if_pos h1]; exact bo_0
      · by_cases h2 : (5 : Int32) < x
        · rw [if_neg h1, if_pos h2]; exact bo_0
        · exact absurd (reg5_iff.mpr ⟨h1, h2⟩) q
  | 3, _ =>
    rw [if_neg (show ¬ nI 3 = 2 by decide), if_pos (show nI 3 = 3 from rfl)]
    refine ⟨fun q => ?_, fun q => ?_⟩
    · obtain ⟨h1, h2⟩ := blk40_iff.mp q
      rw [if_neg h1, if_pos h2]; exact bo_1
    · by_cases h1 : x < 0
      · rw [if_pos h1]; exact bo_0
      · by_cases h2 : x < 40
        · exact absurd (blk40_iff.mpr ⟨h1, h2⟩) q
        · rw [if_neg h1, if_neg h2]; exact bo_0
  | 4, _ =>
    rw [if_neg (show ¬ nI 4 = 2 by decide), if_neg (show ¬ nI 4 = 3 by decide), if_pos (show nI 4 = 4 from rfl)]
    by_cases h0 : x = 0
    · rw [if_pos h0]
      exact ⟨fun _ => bo_1, fun q => absurd (Or.inl h0) q⟩
    · by_cases h1 : x = 1
      · rw [if_neg h0, if_pos h1]
        exact ⟨fun _ => bo_1, fun q => absurd (Or.inr h1) q⟩
      · rw [if_neg h0, if_neg h1]
        exact ⟨fun q => absurd q (fun q => q.elim h0 h1), fun _ => bo_0⟩
  | 5, _ =>
    rw [if_neg (show ¬ nI 5 = 2 by decide), if_neg (show ¬ nI 5 = 3 by decide), if_neg (show ¬ nI 5 = 4 by decide), if_pos (show nI 5 = 5 from rfl)]
    rcases j_has (D := D) h.1 x with ⟨i, t, hi, rfl, hh⟩ | ⟨hx, hh⟩
    · obtain ⟨m, r, b1, b2, b3, b4, b5, b6, b7, b8, b9, b10⟩ := ty_kind h hi
      have inv : ftP L 5 (nI i) → m = 2 ∨ m = 3 := by
        rintro ⟨i', t', e1, e2, e3⟩
        have l1 := (List.getElem?_eq_some_iff.mp e2).1
        have l2 := h.2.1
        have e := nI_inj (by omega) (by omega) e1
        subst e
        have et := Option.some.inj (hi.symm.trans e2)
        subst et
        rcases e3 with ⟨u, v, e3⟩ | ⟨u, e3⟩
        · exact Or.inl (b9 u v e3)
        · exact Or.inr (b10 u e3)
      rw [j_kindOf h.1 hi, bi_some, dq_self, b2]
      by_cases g2 : m = 2
      · subst g2
        rw [if_pos (show nI 2 = 2 from rfl)]
        exact ⟨fun _ => bo_1, fun q => absurd ⟨i, t, rfl, hi, Or.inl (b7 rfl)⟩ q⟩
      · have n2 : ¬ nI m = 2 := fun q => g2 (nI_inj (by omega) (by decide) (show nI m = nI 2 from q))
        rw [if_neg n2, j_kindOf h.1 hi, bi_some, dq_self, b2]
        by_cases g3 : m = 3
        · subst g3
          rw [if_pos (show nI 3 = 3 from rfl)]
          exact ⟨fun _ => bo_1, fun q => absurd ⟨i, t, rfl, hi, Or.inr (b8 rfl)⟩ q⟩
        · have n3 : ¬ nI m = 3 := fun q => g3 (nI_inj (by omega) (by decide) (show nI m = nI 3 from q))
          rw [if_neg n3]
          exact ⟨fun q => absurd (inv q) (fun z => z.elim g2 g3), fun _ => bo_0⟩
    · have hk : jT_kindOf x D Mc = some (-1, D, Mc) := by
        unfold jT_kindOf
        rw [hh, bi_some, dq_self, if_pos rfl]
        rfl
      have nf : ¬ ftP L 5 x := by
        rintro ⟨i', t', e1, e2, -⟩
        have l1 := (List.getElem?_eq_some_iff.mp e2).1
        have l2 := h.2.1
        subst e1
        rcases hx with q | q
        · exact absurd q (nI_pos (by omega))
        · exact absurd q (nI_ge l1 (by omega))
      rw [hk, bi_some, dq_self, if_neg (show ¬ (-1 : Int32) = 2 by decide), hk, bi_some, dq_self, if_neg (show ¬ (-1 : Int32) = 3 by decide)]
      exact ⟨fun q => absurd q nf, fun _ => bo_0⟩
theorem fm_5 {o j : Nat} (ho : o ≤ 12) (hj : j ≤ 2) : fm o j ≤ 5 := by
  have : ∀ o, o < 13 → ∀ j, j < 3 → fm o j ≤ 5 := by decide
  exact this o (by omega) j (by omega)
theorem c_takes {o : Nat} (hg : [p] ∈ gC) (h : rlT L LM Mc N) (ho : o ≤ 12) : rz (ftA L o a b c) (jC_takes p (nI o) a b c D Mc) D Mc := by
  have g : ∀ {q : Option sm_S}, sm_ga [p] gC q = q := ga_in hg
  have e1 : nI (3 * o) + 1 = nI (3 * o + 1) := nI_1 _
  have e2 : nI (3 * o) + 2 = nI (3 * o + 2) := nI_add (3 * o) 2
  have k0 : ∀ {ρ : Type} {q : Option ρ}, sm_ck (nI (3 * o)) 39 q = q := ck_nI (by omega) (by decide)
  have k1 : ∀ {ρ : Type} {q : Option ρ}, sm_ck (nI (3 * o + 1)) 39 q = q := ck_nI (by omega) (by decide)
  have k2 : ∀ {ρ : Type} {q : Option ρ}, sm_ck (nI (3 * o + 2)) 39 q = q := ck_nI (by omega) (by decide)
  have q0 : (nI (3 * o)).toNatClampNeg = 3 * o := nI_clamp (by omega)
  have q1 : (nI (3 * o + 1)).toNatClampNeg = 3 * o + 1 := nI_clamp (by omega)
  have q2 : (nI (3 * o + 2)).toNatClampNeg = 3 * o + 2 := nI_clamp (by omega)
  unfold jC_takes
  rw [if_neg (nI_pos (by omega)), if_neg (show ¬ (12 : Int32) < nI o from nI_nlt (a := 12) ho (by decide))]
  simp only [g, nI_3, e1, e2, k0, k1, k2, q0, q1, q2]
  have t0 : sm_tab tFORM (3 * o) = nI (fm o 0) := rfl
  have t1 : sm_tab tFORM (3 * o + 1) = nI (fm o 1) := rfl
  have t2 : sm_tab tFORM (3 * o + 2) = nI (fm o 2) := rfl
  rw [t0, t1, t2]
  refine (rz_bi (c_fits h (fm_5 ho (by decide))) bo_0 (rz_bi (c_fits h (fm_5 ho (by decide))) bo_0 (rz_bi (c_fits h (fm_5 ho (by decide))) bo_0 (rz_1 bo_1)))).iff ?_
  exact ⟨fun q => ⟨q.1, q.2.1, q.2.2.1⟩, fun q => ⟨q.1, q.2.1, q.2.2, trivial⟩⟩
end
