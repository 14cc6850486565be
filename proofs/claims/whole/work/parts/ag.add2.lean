/-! add: the reference's questions; what is written -/
section
variable {pV : pVt} {nB nC p d1 d3 d4 n : Nat} {L LM : List Ty} {W : Nat → Ty} {A : Nat → Option Ty} {Mc Mm N : sm_M} {D : sm_D} {k a b c x : Int32} {oa ob oc : Option Ty}
theorem r_f64 : rz (reg5 a) (jR_fits_64 a D N) D N := rz_end r_reg
theorem r_f69 : rz (reg5 a ∧ reg5 b ∧ reg5 c ∧ True) (jR_fits_69 a b c D N) D N := rz_bi r_reg bo_0 (rz_bi r_reg bo_0 (rz_bi r_reg bo_0 (rz_1 bo_1)))
theorem r_f128 : rz (reg5 a ∧ blk40 b ∧ True) (jR_fits_128 a b D N) D N := rz_bi r_reg bo_0 (rz_bi r_blk bo_0 (rz_1 bo_1))
theorem r_01 : rz (c = 0 ∨ c = 1) (if c = (0 : Int32) then jR_fits_122 D N else if c = (1 : Int32) then jR_fits_122 D N else jR_fits_126 D N) D N := by
  by_cases h0 : c = 0
  · rw [if_pos h0]; exact ⟨fun _ => bo_1, fun q => absurd (Or.inl h0) q⟩
  · by_cases h1 : c = 1
    · rw [if_neg h0, if_pos h1]; exact ⟨fun _ => bo_1, fun q => absurd (Or.inr h1) q⟩
    · rw [if_neg h0, if_neg h1]; exact ⟨fun q => absurd q (fun q => q.elim h0 h1), fun _ => bo_0⟩
theorem r_f7 (h : rlT L LM Mc N) : rz (ftP L 5 c) (sm_bi (jR_isMade c D N) (fun x4 E4 M4 => sm_dq E4 D (if x4 = (0 : Int32) then (jR_fits_207 D M4) else (sm_ck c 30 (sm_ck (M4 7 (Int32.toNatClampNeg c)) 3000 (if (M4 2 (Int32.toNatClampNeg (M4 7 (Int32.toNatClampNeg c)))) = (2 : Int32) then (jR_fits_203 D M4) else (sm_ck c 30 (sm_ck (M4 7 (Int32.toNatClampNeg c)) 3000 (if (M4 2 (Int32.toNatClampNeg (M4 7 (Int32.toNatClampNeg c)))) = (3 : Int32) then (jR_fits_203 D M4) else (jR_fits_207 D M4)))))))))) D N := by
  rcases r_made (D := D) h (x := c) with ⟨i, t, hi, rfl, m1, m2⟩ | ⟨m1, m2⟩
  · obtain ⟨m, r, b1, b2, b3, b4, b5, b6, b7, b8, b9, b10⟩ := ty_kind h hi
    have inv : ftP L 5 (nI i) → m = 2 ∨ m = 3 := by
      rintro ⟨i', t', e1, e2, e3⟩
      have l1 := (List.getElem?_eq_some_iff.mp e2).1
      have l2 := h.2.1
      have e := nI_inj (by omega) (by omega) e1
      subst e
      have et := Option.some.inj (hi.symm.trans e2)
      subst et
      rcases e3 with ⟨u, v, e3⟩ | ⟨u, e3⟩
      · exact Or.inl (b9 u v e3)
      · exact Or.inr (b10 u e3)
    have ki : ∀ {ρ : Type} {q : Option ρ}, sm_ck (nI i) 30 q = q := ck_nI b5 (by decide)
    have kr : ∀ {ρ : Type} {q : Option ρ}, sm_ck (nI r) 3000 q = q := ck_nI b4 (by decide)
    rw [m2, bi_some, dq_self, if_neg (by decide), ki, ki, nI_clamp (by omega), b3, kr, kr, nI_clamp (by omega), b6]
    by_cases g2 : m = 2
    · subst g2
      rw [if_pos (show nI 2 = 2 from rfl)]
      exact ⟨fun _ => bo_1, fun q => absurd ⟨i, t, rfl, hi, Or.inl (b7 rfl)⟩ q⟩
    · have n2 : ¬ nI m = 2 := fun q => g2 (nI_inj (by omega) (by decide) (show nI m = nI 2 from q))
      rw [if_neg n2]
      by_cases g3 : m = 3
      · subst g3
        rw [if_pos (show nI 3 = 3 from rfl)]
        exact ⟨fun _ => bo_1, fun q => absurd ⟨i, t, rfl, hi, Or.inr (b8 rfl)⟩ q⟩
      · have n3 : ¬ nI m = 3 := fun q => g3 (nI_inj (by omega) (by decide) (show nI m = nI 3 from q))
        rw [if_neg n3]
        exact ⟨fun q => absurd (inv q) (fun z => z.elim g2 g3), fun _ => bo_0⟩
  · rw [m2, bi_some, dq_self, if_pos rfl]
    refine ⟨fun q => ?_, fun _ => bo_0⟩
    obtain ⟨i', t', rfl, e2, -⟩ := q
    rw [j_has_in h.1 e2] at m1
    exact absurd (congrArg (fun w => Option.map (fun u => u.1) w) m1) (by simp)
theorem r_fits {o : Nat} (h : rlT L LM Mc N) (ho : o ≤ 12) : rz (ftA L o a b c) (jR_fits (nI o) a b c D N) D N := by
  match o, ho with
  | 0, _ => exact (r_f64 (a := a)).iff ⟨fun q => ⟨q, trivial, trivial⟩, fun q => q.1⟩
  | 1, _ => exact (r_f69 (a := a) (b := b) (c := c)).iff ⟨fun q => ⟨q.1, q.2.1, q.2.2.1⟩, fun q => ⟨q.1, q.2.1, q.2.2, trivial⟩⟩
  | 2, _ => exact (r_f69 (a := a) (b := b) (c := c)).iff ⟨fun q => ⟨q.1, q.2.1, q.2.2.1⟩, fun q => ⟨q.1, q.2.1, q.2.2, trivial⟩⟩
  | 3, _ => exact (r_f69 (a := a) (b := b) (c := c)).iff ⟨fun q => ⟨q.1, q.2.1, q.2.2.1⟩, fun q => ⟨q.1, q.2.1, q.2.2, trivial⟩⟩
  | 4, _ => exact (r_f69 (a := a) (b := b) (c := c)).iff ⟨fun q => ⟨q.1, q.2.1, q.2.2.1⟩, fun q => ⟨q.1, q.2.1, q.2.2, trivial⟩⟩
  | 5, _ =>
    unfold jR_fits
    rw [if_neg (show ¬ nI 5 = 0 by decide), if_neg (show ¬ nI 5 = 1 by decide), if_neg (show ¬ nI 5 = 2 by decide), if_neg (show ¬ nI 5 = 3 by decide), if_neg (show ¬ nI 5 = 4 by decide), if_pos (show nI 5 = 5 from rfl)]
    exact rz_bi r_reg bo_0 (rz_bi r_reg bo_0 r_01)
  | 6, _ => exact (r_f128 (a := a) (b := b)).iff ⟨fun q => ⟨q.1, q.2.1, trivial⟩, fun q => ⟨q.1, q.2.1, trivial⟩⟩
  | 7, _ =>
    unfold jR_fits
    rw [if_neg (show ¬ nI 7 = 0 by decide), if_neg (show ¬ nI 7 = 1 by decide), if_neg (show ¬ nI 7 = 2 by decide), if_neg (show ¬ nI 7 = 3 by decide), if_neg (show ¬ nI 7 = 4 by decide), if_neg (show ¬ nI 7 = 5 by decide), if_neg (show ¬ nI 7 = 6 by decide), if_pos (show nI 7 = 7 from rfl)]
    exact rz_bi r_reg bo_0 (rz_bi r_reg bo_0 (r_f7 h))
  | 8, _ => exact (r_f69 (a := a) (b := b) (c := c)).iff ⟨fun q => ⟨q.1, q.2.1, q.2.2.1⟩, fun q => ⟨q.1, q.2.1, q.2.2, trivial⟩⟩
  | 9, _ => exact (rz_end (r_blk (x := a))).iff ⟨fun q => ⟨q, trivial, trivial⟩, fun q => q.1⟩
  | 10, _ => exact (r_f128 (a := a) (b := b)).iff ⟨fun q => ⟨q.1, q.2.1, trivial⟩, fun q => ⟨q.1, q.2.1, trivial⟩⟩
  | 11, _ => exact (r_f64 (a := a)).iff ⟨fun q => ⟨q, trivial, trivial⟩, fun q => q.1⟩
  | 12, _ => exact (rz_1 bo_1).iff ⟨fun _ => ⟨trivial, trivial, trivial⟩, fun _ => trivial⟩
  | o + 13, h => omega
/-- what is kept of an argument -/
def zf (f : Nat) (x : Int32) : Int32 := if f = 0 then 0 else x
theorem r_add79 {o : Nat} (ho : o ≤ 12) (h7 : o ≠ 7) : jR_add_79 (nI o) a b c (if o = 12 then 1 else 0) D N = jR_add_187 (nI o) (zf (fm o 0) a) (zf (fm o 1) b) (zf (fm o 2) c) D N := by
  match o, ho with
  | 0, _ => rfl
  | 1, _ => rfl
  | 2, _ => rfl
  | 3, _ => rfl
  | 4, _ => rfl
  | 5, _ => rfl
  | 6, _ => rfl
  | 7, _ => exact absurd rfl h7
  | 8, _ => rfl
  | 9, _ => rfl
  | 10, _ => rfl
  | 11, _ => rfl
  | 12, _ => rfl
  | o + 13, h => omega
theorem r_add79_7 : jR_add_79 (nI 7) a b c 0 D N = sm_ck c 30 (jR_add_187 (nI 7) a b (N 7 (Int32.toNatClampNeg c)) D N) := rfl
/-- what fits has the form of an instruction -/
theorem ft_frm {o : Nat} (ho : o ≤ 12) (h : ftA L o a b c) {y : Int32} (hy : o ≠ 7 → y = zf (fm o 2) c) : frm (nI o) (zf (fm o 0) a) (zf (fm o 1) b) y := by
  obtain ⟨h1, h2, h3⟩ := h
  match o, ho with
  | 0, _ => exact Or.inl ⟨rfl, h1⟩
  | 1, _ => rw [hy (by decide)]; exact Or.inr (Or.inl ⟨Or.inl rfl, h1, h2, h3⟩)
  | 2, _ => rw [hy (by decide)]; exact Or.inr (Or.inl ⟨Or.inr (Or.inl rfl), h1, h2, h3⟩)
  | 3, _ => rw [hy (by decide)]; exact Or.inr (Or.inl ⟨Or.inr (Or.inr (Or.inl rfl)), h1, h2, h3⟩)
  | 4, _ => rw [hy (by decide)]; exact Or.inr (Or.inl ⟨Or.inr (Or.inr (Or.inr (Or.inl rfl))), h1, h2, h3⟩)
  | 5, _ => rw [hy (by decide)]; exact Or.inr (Or.inr (Or.inl ⟨rfl, h1, h2, h3⟩))
  | 6, _ => exact Or.inr (Or.inr (Or.inr (Or.inl ⟨rfl, h1, h2⟩)))
  | 7, _ => exact Or.inr (Or.inr (Or.inr (Or.inr (Or.inl ⟨rfl, h1, h2⟩))))
  | 8, _ => rw [hy (by decide)]; exact Or.inr (Or.inl ⟨Or.inr (Or.inr (Or.inr (Or.inr rfl))), h1, h2, h3⟩)
  | 9, _ => exact Or.inr (Or.inr (Or.inr (Or.inr (Or.inr (Or.inl ⟨rfl, h1⟩)))))
  | 10, _ => exact Or.inr (Or.inr (Or.inr (Or.inr (Or.inr (Or.inr (Or.inl ⟨rfl, h1, h2⟩))))))
  | 11, _ => exact Or.inr (Or.inr (Or.inr (Or.inr (Or.inr (Or.inr (Or.inr (Or.inl ⟨rfl, h1⟩)))))))
  | 12, _ => exact Or.inr (Or.inr (Or.inr (Or.inr (Or.inr (Or.inr (Or.inr (Or.inr rfl)))))))
  | o + 13, h => omega
end
