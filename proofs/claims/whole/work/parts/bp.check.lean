/-! check -/
section
variable {Bm M : sm_M} {LM0 LR : List Ty} {h N nB nC n s l bk : Nat} {W : Nat → Ty} {A : Nat → Option Ty} {R : Nat → Option Ty} {x y z : Int32} {o1 o2 o3 : Option Ty} {t : Ty}
/-- the blocks' rows -/
def rB (Bm : sm_M) (nB nC : Nat) : Prop := ∀ b, b < nB → ∃ s l : Nat, s + l ≤ nC ∧ Bm 33 b = nI s ∧ Bm 34 b = nI l
theorem r_kfirst (hC : rC Bm LM0 nB nC W A) (hB : rB Bm nB nC) (hh : ∀ m, h ≤ m → ty_hid m ∉ LM0) (h0 : LM0[0]? = some tyN) (hcap : LM0.length + 900 ≤ 3000) (hM : rZ Bm LM0 LM0 M) (hb : bk < nB) : ∃ (v : Int32) (LR' : List Ty) (M' : sm_M), jR_checkBlock (nI bk) [] M = some (v, [], M') ∧ pK nB W A (Bm 29) (Bm 30) (Bm 31) (Bm 32) h (xN (Bm 33) bk) (xN (Bm 34) bk) (xN (Bm 34) bk) (pR0 A bk) v ∧ rZ Bm LM0 LR' M' := by
  obtain ⟨hC300, hB40, h38, hrow, hA⟩ := id hC
  obtain ⟨s, l, s1, s2, s3⟩ := hB bk hb
  have xs : xN (Bm 33) bk = s := by unfold xN; rw [s2]; exact nI_clamp (by omega)
  have xl : xN (Bm 34) bk = l := by unfold xN; rw [s3]; exact nI_clamp (by omega)
  rw [xs, xl]
  have m35 : M 35 = Bm 35 := hM.2.2.1 35 (by decide) (by decide)
  have u35 : ∀ {N : sm_M} {r : Nat} {y : Int32}, sm_up N 53 r y 35 = N 35 := fun {N r y} => up_ne (by decide)
  have hX : rX Bm LM0 h s LM0.length LM0 (pR0 A bk) (sm_up (sm_up (sm_up (sm_up (sm_up M 53 1 (Bm 35 (3 * bk))) 53 2 (Bm 35 (3 * bk + 1))) 53 3 (Bm 35 (3 * bk + 2))) 53 4 (-1)) 53 5 (-1)) := by
    obtain ⟨z1, z2, z3, z4⟩ := hM
    have o : ∀ q, q ≠ 53 → sm_up (sm_up (sm_up (sm_up (sm_up M 53 1 (Bm 35 (3 * bk))) 53 2 (Bm 35 (3 * bk + 1))) 53 3 (Bm 35 (3 * bk + 2))) 53 4 (-1)) 53 5 (-1) q = M q := fun q hq => by rw [up_ne hq, up_ne hq, up_ne hq, up_ne hq, up_ne hq]
    refine ⟨⟨tabM_o (fun q _ _ => o q (by omega)) (by rw [o 1 (by decide)]) z1, ⟨[], (List.append_nil _).symm⟩, fun q q1 q2 => by rw [o q q2]; exact z3 q q1 q2, fun j hj => by rw [o 1 (by decide)]; exact z4 j hj⟩, Nat.le_refl _, fun m hm => hh _ (by omega), h0, fun r r1 r5 => ?_⟩
    match r, r1, r5 with
    | 1, _, _ => rw [up_as (by decide), up_as (by decide), up_as (by decide), up_as (by decide), up_at]; exact hA (3 * bk) (by omega)
    | 2, _, _ => rw [up_as (by decide), up_as (by decide), up_as (by decide), up_at]; exact hA (3 * bk + 1) (by omega)
    | 3, _, _ => rw [up_as (by decide), up_as (by decide), up_at]; exact hA (3 * bk + 2) (by omega)
    | 4, _, _ => rw [up_as (by decide), up_at]; exact Or.inl ⟨rfl, rfl⟩
    | 5, _, _ => rw [up_at]; exact Or.inl ⟨rfl, rfl⟩
  obtain ⟨v, LR', M', k1, k2, k3⟩ := r_kblk (s := s) (l := l) hC (show bk < 40 by omega) s2 s3 s1 l 0 (pR0 A bk) LM0 _ LM0.length (by omega) hX (by omega)
  refine ⟨v, LR', M', ?_, k2, k3⟩
  have a1 : (3 : Int32) * nI bk + 1 - 1 = nI (3 * bk) := by rw [nI_3, nI_1, nI_pred]
  have a2 : (3 : Int32) * nI bk + 2 - 1 = nI (3 * bk + 1) := by rw [nI_3, show nI (3 * bk) + 2 = nI (3 * bk + 1 + 1) from nI_add (3 * bk) 2, nI_pred]
  have a3 : (3 : Int32) * nI bk + 3 - 1 = nI (3 * bk + 2) := by rw [nI_3, show nI (3 * bk) + 3 = nI (3 * bk + 2 + 1) from nI_add (3 * bk) 3, nI_pred]
  unfold jR_checkBlock jR_checkBlock_2
  refine Eq.trans (sm_lp_eq (s' := (nI bk, 2, sm_up M 53 1 (Bm 35 (3 * bk)))) ?_) (Eq.trans (sm_lp_eq (s' := (nI bk, 3, sm_up (sm_up M 53 1 (Bm 35 (3 * bk))) 53 2 (Bm 35 (3 * bk + 1)))) ?_) (Eq.trans (sm_lp_eq (s' := (nI bk, 4, sm_up (sm_up (sm_up M 53 1 (Bm 35 (3 * bk))) 53 2 (Bm 35 (3 * bk + 1))) 53 3 (Bm 35 (3 * bk + 2)))) ?_) (Eq.trans (sm_lp_eq (s' := (nI bk, 5, sm_up (sm_up (sm_up (sm_up M 53 1 (Bm 35 (3 * bk))) 53 2 (Bm 35 (3 * bk + 1))) 53 3 (Bm 35 (3 * bk + 2))) 53 4 (-1))) ?_) (Eq.trans (sm_lp_eq (s' := (nI bk, 6, sm_up (sm_up (sm_up (sm_up (sm_up M 53 1 (Bm 35 (3 * bk))) 53 2 (Bm 35 (3 * bk + 1))) 53 3 (Bm 35 (3 * bk + 2))) 53 4 (-1)) 53 5 (-1))) ?_) (sm_lp_end ?_)))))
  · show jR_checkBlock_2_c (nI bk) 1 [] M = _
    unfold jR_checkBlock_2_c jR_checkBlock_34
    rw [if_pos (by decide), if_pos (by decide), a1, ck_nI (by omega) (by decide), nI_clamp (by omega), m35, dq_self, ck_of ⟨by decide, by decide⟩]
    simp only [sm_wr, dq_self]
    rfl
  · show jR_checkBlock_2_c (nI bk) 2 [] (sm_up M 53 1 (Bm 35 (3 * bk))) = _
    unfold jR_checkBlock_2_c jR_checkBlock_34
    rw [if_pos (by decide), if_pos (by decide), a2, ck_nI (by omega) (by decide), nI_clamp (by omega), u35, m35, dq_self, ck_of ⟨by decide, by decide⟩]
    simp only [sm_wr, dq_self]
    rfl
  · show jR_checkBlock_2_c (nI bk) 3 [] (sm_up (sm_up M 53 1 (Bm 35 (3 * bk))) 53 2 (Bm 35 (3 * bk + 1))) = _
    unfold jR_checkBlock_2_c jR_checkBlock_34
    rw [if_pos (by decide), if_pos (by decide), a3, ck_nI (by omega) (by decide), nI_clamp (by omega), u35, u35, m35, dq_self, ck_of ⟨by decide, by decide⟩]
    simp only [sm_wr, dq_self]
    rfl
  · show jR_checkBlock_2_c (nI bk) 4 [] (sm_up (sm_up (sm_up M 53 1 (Bm 35 (3 * bk))) 53 2 (Bm 35 (3 * bk + 1))) 53 3 (Bm 35 (3 * bk + 2))) = _
    unfold jR_checkBlock_2_c jR_checkBlock_34
    rw [if_pos (by decide), if_neg (by decide), dq_self, ck_of ⟨by decide, by decide⟩]
    simp only [sm_wr, dq_self]
    rfl
  · show jR_checkBlock_2_c (nI bk) 5 [] (sm_up (sm_up (sm_up (sm_up M 53 1 (Bm 35 (3 * bk))) 53 2 (Bm 35 (3 * bk + 1))) 53 3 (Bm 35 (3 * bk + 2))) 53 4 (-1)) = _
    unfold jR_checkBlock_2_c jR_checkBlock_34
    rw [if_pos (by decide), if_neg (by decide), dq_self, ck_of ⟨by decide, by decide⟩]
    simp only [sm_wr, dq_self]
    rfl
  · show jR_checkBlock_2_c (nI bk) 6 [] _ = _
    unfold jR_checkBlock_2_c
    rw [if_neg (by decide)]
    rw [nI_0] at k1
    rw [k1]
    rfl
theorem r_kver (hC : rC Bm LM0 nB nC W A) (hB : rB Bm nB nC) (hh : ∀ m, h ≤ m → ty_hid m ∉ LM0) (h0 : LM0[0]? = some tyN) (hcap : LM0.length + 900 ≤ 3000) : ∀ (n bk : Nat) (M : sm_M), bk + n = nB → rZ Bm LM0 LM0 M → ∃ (v : Int32) (M' : sm_M), jR_check_50 (nI LM0.length) (-1) (nI bk) [] M = some (v, [], M') ∧ pD nB W A (Bm 29) (Bm 30) (Bm 31) (Bm 32) (Bm 33) (Bm 34) h n v ∧ rZ Bm LM0 LM0 M' := by
  have hB40 := hC.2.1
  have h38 := hC.2.2.1
  intro n
  induction n with
  | zero =>
    intro bk M hbk hM
    refine ⟨-1, M, ?_, rfl, hM⟩
    unfold jR_check_50
    refine sm_lp_end ?_
    show jR_check_50_c (nI LM0.length) (-1) (nI bk) [] M = _
    unfold jR_check_50_c jR_check_98
    rw [hM.2.2.2 38 (by decide), h38, if_neg (nI_nlt (by omega) (by omega))]
    rfl
  | succ n ih =>
    intro bk M hbk hM
    have eb : nB - (n + 1) = bk := by omega
    have hlt : nI bk < M 1 38 := by rw [hM.2.2.2 38 (by decide), h38]; exact nI_lt (by omega) (by omega)
    obtain ⟨w, LR', M1, j1, j2, j3⟩ := r_kfirst hC hB hh h0 hcap hM (show bk < nB by omega)
    obtain ⟨z1, ⟨K, z2⟩, z3, z4⟩ := j3
    rw [z2] at z1
    have hM2 : rZ Bm LM0 LM0 (sm_up M1 1 1 (nI LM0.length)) := ⟨tabM_cut z1, ⟨[], (List.append_nil _).symm⟩, fun q q1 q2 => by rw [up_ne (by omega)]; exact z3 q q1 q2, fun j hj => by rw [up_as hj]; exact z4 j hj⟩
    obtain ⟨s, l, s1, s2, s3⟩ := hB bk (by omega)
    have hC300 := hC.1
    have xl : xN (Bm 34) bk = l := by unfold xN; rw [s3]; exact nI_clamp (by omega)
    have hstep : ∀ {r : Int32}, (if w < (0 : Int32) then (-1 : Int32) else 1000 * nI bk + w) = r → jR_check_50 (nI LM0.length) (-1) (nI bk) [] M = jR_check_50 (nI LM0.length) r (nI (bk + 1)) [] (sm_up M1 1 1 (nI LM0.length)) := by
      intro r hr
      subst hr
      unfold jR_check_50
      refine sm_lp_eq ?_
      show jR_check_50_c (nI LM0.length) (-1) (nI bk) [] M = _
      unfold jR_check_50_c jR_check_86
      simp only [sm_wr, dq_self]
      rw [if_pos hlt, if_pos (by decide), j1, bi_some, dq_self, nI_1]
      by_cases g : w < 0
      · rw [if_pos g, if_pos g]
      · rw [if_neg g, if_neg g]
    rcases pK_val _ _ _ j2 with rfl | ⟨jj, hjj, rfl⟩
    · obtain ⟨v, M', k1, k2, k3⟩ := ih (bk + 1) (sm_up M1 1 1 (nI LM0.length)) (by omega) hM2
      refine ⟨v, M', ?_, ⟨-1, by rw [eb]; exact j2, Or.inl ⟨rfl, k2⟩⟩, k3⟩
      rw [← k1]
      exact hstep (if_pos (by decide))
    · rw [xl] at hjj
      have hv : (1000 : Int32) * nI bk + nI jj = nI (1000 * bk + jj) := by rw [show (1000 : Int32) * nI bk = nI (1000 * bk) from nI_mul 1000 bk, nI_add]
      refine ⟨nI (1000 * bk + jj), sm_up M1 1 1 (nI LM0.length), ?_, ⟨nI jj, by rw [eb]; exact j2, Or.inr ⟨nI_m1 (by omega), by rw [eb]; exact hv.symm⟩⟩, hM2⟩
      rw [hstep (r := nI (1000 * bk + jj)) (by rw [if_neg (nI_pos (by omega)), hv])]
      unfold jR_check_50
      refine sm_lp_end ?_
      show jR_check_50_c (nI LM0.length) (nI (1000 * bk + jj)) (nI (bk + 1)) [] (sm_up M1 1 1 (nI LM0.length)) = _
      unfold jR_check_50_c jR_check_98
      rw [if_neg (show ¬ nI (1000 * bk + jj) < 0 from nI_pos (by omega))]
      by_cases g : nI (bk + 1) < sm_up M1 1 1 (nI LM0.length) 1 38
      · rw [if_pos g]; rfl
      · rw [if_neg g]; rfl
theorem r_kcheck (hC : rC Bm LM0 nB nC W A) (hB : rB Bm nB nC) (hh : ∀ m, h ≤ m → ty_hid m ∉ LM0) (h0 : LM0[0]? = some tyN) (hcap : LM0.length + 900 ≤ 3000) (hM : rZ Bm LM0 LM0 (sm_up M 1 0 0)) : ∃ (v : Int32) (M' : sm_M), jR_check [] M = some (v, [], M') ∧ pVer nB W A (Bm 29) (Bm 30) (Bm 31) (Bm 32) (Bm 33) (Bm 34) h v ∧ rZ Bm LM0 LM0 M' := by
  obtain ⟨hC300, hB40, h38, hrow, hA⟩ := id hC
  simp only [jR_check, sm_wr]
  generalize sm_up M 1 0 0 = N at hM ⊢
  obtain ⟨v, M', k1, k2, k3⟩ := r_kver hC hB hh h0 hcap nB 0 N (by omega) hM
  rw [nI_0] at k1
  have n35 : N 35 = Bm 35 := hM.2.2.1 35 (by decide) (by decide)
  have n38 : N 1 38 = nI nB := by rw [hM.2.2.2 38 (by decide)]; exact h38
  have hl : LM0.length < 2 ^ 31 := by omega
  have hT0 : ty_pr LM0 0 (some tyN) := Or.inr ⟨0, tyN, rfl, h0, nI_0.symm⟩
  have hno : (¬ pBg nB A) → ∃ (v : Int32) (M' : sm_M), jR_check_39 [] N = some (v, [], M') ∧ pVer nB W A (Bm 29) (Bm 30) (Bm 31) (Bm 32) (Bm 33) (Bm 34) h v ∧ rZ Bm LM0 LM0 M' := fun hb => ⟨0, N, rfl, Or.inl ⟨hb, rfl⟩, hM⟩
  rw [n38, n35]
  by_cases hn : nB = 0
  · subst hn
    rw [if_pos (show nI 0 = 0 from nI_0)]
    exact hno (fun q => absurd q.1 (by decide))
  · rw [if_neg (show ¬ nI nB = 0 from nI_ne0 (by omega) (by omega)), ck_of ⟨by decide, by decide⟩, ck_of ⟨by decide, by decide⟩, ck_of ⟨by decide, by decide⟩]
    show ∃ (v : Int32) (M' : sm_M), (if (0 : Int32) < Bm 35 0 then _ else (if Bm 35 1 < (0 : Int32) then (if Bm 35 2 < (0 : Int32) then _ else _) else _)) = some (v, [], M') ∧ _
    have e0 := ty_pr.neg hl (hA 0 (by omega))
    have e0' := ty_pr.eq hl hM.1.2.2.1 (hA 0 (by omega)) hT0
    have e1 := ty_pr.neg hl (hA 1 (by omega))
    have e2 := ty_pr.neg hl (hA 2 (by omega))
    by_cases g0 : (0 : Int32) < Bm 35 0
    · rw [if_pos g0]
      refine hno (fun q => ?_)
      rcases q.2.1 with z | z
      · exact absurd (Int32.lt_trans g0 (e0.mpr z)) (by decide)
      · rw [e0'.mpr z] at g0
        exact absurd g0 (by decide)
    · rw [if_neg g0]
      by_cases g1 : Bm 35 1 < 0
      · rw [if_pos g1]
        by_cases g2 : Bm 35 2 < 0
        · rw [if_pos g2, hM.1.2.1, k1]
          refine ⟨v, M', rfl, Or.inr ⟨⟨by omega, ?_, e1.mp g1, e2.mp g2⟩, k2⟩, k3⟩
          rcases hA 0 (by omega) with ⟨z, -⟩ | ⟨j, u, z, hj, e⟩
          · exact Or.inl z
          · have hjl := (List.getElem?_eq_some_iff.mp hj).1
            by_cases j0 : j = 0
            · subst j0
              exact Or.inr (e0'.mp (e.trans nI_0))
            · rw [e] at g0
              exact absurd (nI_lt (a := 0) (by omega) (by omega)) g0
        · rw [if_neg g2]
          exact hno (fun q => g2 (e2.mpr q.2.2.2))
      · rw [if_neg g1]
        exact hno (fun q => g1 (e1.mpr q.2.2.1))
end
