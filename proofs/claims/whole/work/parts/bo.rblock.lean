/-! the check, the reference's side: blocks and the verdict -/
theorem pK_val {nB : Nat} {W : Nat → Ty} {A : Nat → Option Ty} {o a b c : Nat → Int32} {h s l : Nat} : ∀ (n : Nat) (R : Nat → Option Ty) (v : Int32), pK nB W A o a b c h s l n R v → v = -1 ∨ ∃ j, j ≤ l ∧ v = nI j
  | 0, R, v, hk => by
    rcases hk with ⟨-, -, e⟩ | ⟨-, e⟩
    · exact Or.inl e
    · exact Or.inr ⟨l, Nat.le_refl _, e⟩
  | n + 1, R, v, hk => by
    rcases hk with ⟨-, e⟩ | ⟨-, ⟨R', -, hk⟩ | ⟨-, e⟩⟩
    · exact Or.inr ⟨_, Nat.sub_le _ _, e⟩
    · exact pK_val n R' v hk
    · exact Or.inr ⟨_, Nat.sub_le _ _, e⟩
section
variable {Bm M : sm_M} {LM0 LR : List Ty} {h N nB nC n s l bk : Nat} {W : Nat → Ty} {A : Nat → Option Ty} {R : Nat → Option Ty} {x y z : Int32} {o1 o2 o3 : Option Ty} {t : Ty}
theorem r_kblk (hC : rC Bm LM0 nB nC W A) (hb : bk < 40) (h33 : Bm 33 bk = nI s) (h34 : Bm 34 bk = nI l) (hsl : s + l ≤ nC) : ∀ (n j : Nat) (R : Nat → Option Ty) (LR : List Ty) (M : sm_M) (N : Nat), j + n = l → rX Bm LM0 h (s + j) N LR R M → N + 3 * n ≤ 3000 → ∃ (v : Int32) (LR' : List Ty) (M' : sm_M), jR_checkBlock_43 (nI bk) (nI j) [] M = some (v, [], M') ∧ pK nB W A (Bm 29) (Bm 30) (Bm 31) (Bm 32) h s l n R v ∧ rZ Bm LM0 LR' M' := by
  have hC300 := hC.1
  have kb : ∀ {ρ : Type} {q : Option ρ}, sm_ck (nI bk) 41 q = q := ck_nI (by omega) (by decide)
  have cb : (nI bk).toNatClampNeg = bk := nI_clamp (by omega)
  have row : ∀ {M : sm_M} {i N : Nat} {LR : List Ty} {R : Nat → Option Ty}, rX Bm LM0 h i N LR R M → M 33 bk = nI s ∧ M 34 bk = nI l ∧ M 29 = Bm 29 := fun hX => ⟨by rw [hX.1.2.2.1 33 (by decide) (by decide)]; exact h33, by rw [hX.1.2.2.1 34 (by decide) (by decide)]; exact h34, hX.1.2.2.1 29 (by decide) (by decide)⟩
  intro n
  induction n with
  | zero =>
    intro j R LR M N hj hX hN
    have ej : j = l := by omega
    subst ej
    obtain ⟨m33, m34, m29⟩ := row hX
    have h140 : jR_checkBlock_140 (nI bk) [] M = some (nI j, [], M) := by
      unfold jR_checkBlock_140 jR_checkBlock_146
      rw [kb, cb, m34]
    by_cases g : 0 < j
    · have e1 : nI s + nI j - 1 = nI (s + j - 1) := by
        rw [nI_add, show s + j = (s + j - 1) + 1 by omega, nI_pred]
        rfl
      obtain ⟨fl, f1, f2⟩ := r_endI (M := M) (Bm 29) (s + j - 1)
      rcases f2 with ⟨rfl, f2⟩ | ⟨rfl, f2⟩
      · refine ⟨-1, LR, M, sm_lp_end ?_, Or.inl ⟨g, f2, rfl⟩, hX.1⟩
        show jR_checkBlock_43_c (nI bk) (nI j) [] M = _
        unfold jR_checkBlock_43_c jR_checkBlock_146
        simp only [kb, cb]
        rw [m33, m34, if_neg (nI_nlt (Nat.le_refl _) (by omega)), if_pos (show (0 : Int32) < nI j from nI_lt (a := 0) g (by omega)), e1, ck_nI (by omega) (by decide), nI_clamp (by omega), m29, f1, bi_some, dq_self, if_neg (by decide)]
        rfl
      · refine ⟨nI j, LR, M, sm_lp_end ?_, Or.inr ⟨fun q => f2 q.2, rfl⟩, hX.1⟩
        show jR_checkBlock_43_c (nI bk) (nI j) [] M = _
        unfold jR_checkBlock_43_c
        simp only [kb, cb]
        rw [m33, m34, if_neg (nI_nlt (Nat.le_refl _) (by omega)), if_pos (show (0 : Int32) < nI j from nI_lt (a := 0) g (by omega)), e1, ck_nI (by omega) (by decide), nI_clamp (by omega), m29, f1, bi_some, dq_self, if_pos rfl, h140]
        rfl
    · refine ⟨nI j, LR, M, sm_lp_end ?_, Or.inr ⟨fun q => g q.1, rfl⟩, hX.1⟩
      show jR_checkBlock_43_c (nI bk) (nI j) [] M = _
      unfold jR_checkBlock_43_c
      simp only [kb, cb]
      have j0 : j = 0 := by omega
      rw [m34, if_neg (nI_nlt (Nat.le_refl _) (by omega)), if_neg (show ¬ (0 : Int32) < nI j by rw [j0]; decide), h140]
      rfl
  | succ n ih =>
    intro j R LR M N hj hX hN
    have ej : l - (n + 1) = j := by omega
    obtain ⟨m33, m34, m29⟩ := row hX
    have hlt : nI j < nI l := nI_lt (by omega) (by omega)
    have h78 : (¬ (0 < j ∧ pEn (Bm 29) (s + j - 1))) → (∃ (v : Int32) (LR' : List Ty) (M' : sm_M), (∀ (hc : jR_checkBlock_43_c (nI bk) (nI j) [] M = jR_checkBlock_78 (nI bk) (nI j) [] M), jR_checkBlock_43 (nI bk) (nI j) [] M = some (v, [], M')) ∧ pK nB W A (Bm 29) (Bm 30) (Bm 31) (Bm 32) h s l (n + 1) R v ∧ rZ Bm LM0 LR' M') := by
      intro f1
      rcases r_ins hC (show s + j < nC by omega) hX (by omega) with ⟨R', LR', M', j1, j2, j3⟩ | ⟨LR', M', j1, j2, j3⟩
      · obtain ⟨v, LR2, M2, k1, k2, k3⟩ := ih (j + 1) R' LR' M' (N + 3) (by omega) j3 (by omega)
        refine ⟨v, LR2, M2, fun hc => ?_, Or.inr ⟨by rw [ej]; exact f1, Or.inl ⟨R', by rw [ej]; exact j2, k2⟩⟩, k3⟩
        rw [← k1]
        unfold jR_checkBlock_43
        refine sm_lp_eq ?_
        show jR_checkBlock_43_c (nI bk) (nI j) [] M = _
        rw [hc]
        unfold jR_checkBlock_78
        rw [kb, cb, m33, nI_add, j1, bi_some, dq_self, if_neg (by decide), dq_self, nI_1]
      · refine ⟨nI j, LR', M', fun hc => ?_, Or.inr ⟨by rw [ej]; exact f1, Or.inr ⟨by rw [ej]; exact j2, by rw [ej]⟩⟩, j3⟩
        unfold jR_checkBlock_43
        refine sm_lp_end ?_
        show jR_checkBlock_43_c (nI bk) (nI j) [] M = _
        rw [hc]
        unfold jR_checkBlock_78 jR_checkBlock_93
        rw [kb, cb, m33, nI_add, j1, bi_some, dq_self, if_pos rfl]
        rfl
    by_cases g : 0 < j
    · have e1 : nI s + nI j - 1 = nI (s + j - 1) := by
        rw [nI_add, show s + j = (s + j - 1) + 1 by omega, nI_pred]
        rfl
      obtain ⟨fl, f1, f2⟩ := r_endI (M := M) (Bm 29) (s + j - 1)
      rcases f2 with ⟨rfl, f2⟩ | ⟨rfl, f2⟩
      · refine ⟨nI j, LR, M, sm_lp_end ?_, Or.inl ?_, hX.1⟩
        · show jR_checkBlock_43_c (nI bk) (nI j) [] M = _
          unfold jR_checkBlock_43_c jR_checkBlock_93
          simp only [kb, cb]
          rw [m33, m34, if_pos hlt, if_pos (show (0 : Int32) < nI j from nI_lt (a := 0) g (by omega)), e1, ck_nI (by omega) (by decide), nI_clamp (by omega), m29, f1, bi_some, dq_self, if_neg (by decide)]
          rfl
        · rw [ej]; exact ⟨⟨g, f2⟩, rfl⟩
      · obtain ⟨v, LR', M', k1, k2, k3⟩ := h78 (fun q => f2 q.2)
        refine ⟨v, LR', M', k1 ?_, k2, k3⟩
        conv => lhs; unfold jR_checkBlock_43_c
        simp only [kb, cb]
        rw [m33, m34, if_pos hlt, if_pos (show (0 : Int32) < nI j from nI_lt (a := 0) g (by omega)), e1, ck_nI (by omega) (by decide), nI_clamp (by omega), m29, f1, bi_some, dq_self, if_pos rfl, dq_self]
    · have j0 : j = 0 := by omega
      obtain ⟨v, LR', M', k1, k2, k3⟩ := h78 (fun q => g q.1)
      refine ⟨v, LR', M', k1 ?_, k2, k3⟩
      conv => lhs; unfold jR_checkBlock_43_c
      simp only [kb, cb]
      rw [m34, if_pos hlt, if_neg (show ¬ (0 : Int32) < nI j by rw [j0]; decide), dq_self]
end
