/-! compile: variables -/
section
variable {p nE d0 d1 d2 d3 : Nat} {B Bm : sm_M} {L LM0 FR : List Ty} {k0 : Nat} {Ex PB : List Nat} {nC nB cur nV nD N k r v e : Nat} {LC LR : List Ty} {W : Nat → Ty} {A : Nat → Option Ty} {TE : Nat → Ty} {BD : Nat → List Ty} {Mc Mm Mc' Mm' M : sm_M} {D : sm_D} {a b c x x' y y' z z' : Int32} {t : Ty}
/-- both sides walk to the variable: at i, left u, h steps behind -/
theorem w_walk (hp : 40 ≤ p) (hS : wS p nE B Bm L LM0 FR k0 Ex PB nC nB cur nV nD LC LR W A TE BD Mc Mm) : ∀ (i u h : Nat), i < nV → h + i < nV → u ≤ 20 → (BD i)[u]? = some t → ∃ i' h', 0 < i' ∧ i' < nV ∧ h' + i' < nV ∧ (∃ j, TE i' = tyP (TE j) t) ∧ ty_pr LR (Mm 41 i') (some t) ∧ Mc 27 i' ≠ 0 ∧ Mm 43 i' ≠ 0 ∧ jW_writeVariable_8 d0 d1 d2 d3 p (nI i) (nI u) (nI h) Mc = jW_writeVariable_67 d0 d1 d2 d3 p (nI i') (nI h') Mc ∧ jR_variable_10 (nI h) (nI i) (nI u) [] Mm = (if h' = 0 then (sm_bi (jR_emit 5 2 1 1 [] Mm) (fun x1 E1 M1 => sm_dq E1 [] (jR_variable_68 (nI 0) (nI i') [] M1))) else jR_variable_68 (nI h') (nI i') [] Mm) := by
  have hnV : nV ≤ 301 := by
    have := hS.1.2.2.2.2.1
    have := ct4_le (o := Mm 29) nC
    have := hS.1.1
    omega
  have h5 : Mc 24 5 = nI nV := hS.2.2.1.2.2.2.2.1
  intro i
  induction i using Nat.strongRecOn with
  | ind i ih =>
    intro u h hi hh hu hget
    obtain ⟨-, -, q⟩ := hS.2.2.2.2.2.2.1 i hi
    rcases q with ⟨-, q, -⟩ | ⟨j, w, j1, j2, j3, j4, j5, j6⟩
    · rw [q] at hget
      simp at hget
    · have ki : ∀ {ρ : Type} {q : Option ρ}, sm_ck (nI i) 301 q = q := ck_nI (by omega) (by decide)
      have ci : (nI i).toNatClampNeg = i := nI_clamp (by omega)
      have ki2 : ∀ {ρ : Type} {q : Option ρ}, sm_ck (nI i) 1200 q = q := ck_nI (by omega) (by decide)
      have hlt : nI h < Mc 24 5 := by rw [h5]; exact nI_lt (by omega) (by omega)
      have hpos : (0 : Int32) < nI i := nI_lt (a := 0) (by omega) (by omega)
      have step : ∀ (bn : Nat), (bn = 0 ∨ bn = 1) → Mc 27 i = nI bn → Mm 43 i = nI bn → bn ≤ u → (bn = 0 ∨ 0 < u) → (BD j)[u - bn]? = some t → ∃ i' h', 0 < i' ∧ i' < nV ∧ h' + i' < nV ∧ (∃ j, TE i' = tyP (TE j) t) ∧ ty_pr LR (Mm 41 i') (some t) ∧ Mc 27 i' ≠ 0 ∧ Mm 43 i' ≠ 0 ∧ jW_writeVariable_8 d0 d1 d2 d3 p (nI i) (nI u) (nI h) Mc = jW_writeVariable_67 d0 d1 d2 d3 p (nI i') (nI h') Mc ∧ jR_variable_10 (nI h) (nI i) (nI u) [] Mm = (if h' = 0 then (sm_bi (jR_emit 5 2 1 1 [] Mm) (fun x1 E1 M1 => sm_dq E1 [] (jR_variable_68 (nI 0) (nI i') [] M1))) else jR_variable_68 (nI h') (nI i') [] Mm) := by
        intro bn hbn c27 m43 hbu hor hget'
        obtain ⟨i', h', r1, r2, r3, r4, r5, r6, r7, r8, r9⟩ := ih j j1 (u - bn) (h + 1) (by omega) (by omega) (by omega) hget'
        have es : nI u - nI bn = nI (u - bn) := by
          have : u = (u - bn) + bn := by omega
          conv => lhs; rw [this]
          exact nI_sub _ _
        refine ⟨i', h', r1, r2, r3, r4, r5, r6, r7, ?_, ?_⟩
        · rw [← r8]
          unfold jW_writeVariable_8
          refine sm_lp_eq ?_
          show jW_writeVariable_8_c d0 d1 d2 d3 p (nI i) (nI u) (nI h) Mc = _
          have h35 : jW_writeVariable_35 d0 d1 d2 d3 p (nI i) (nI u) (nI h) Mc = some (.inl (nI j, nI (u - bn), nI (h + 1), Mc)) := by
            unfold jW_writeVariable_35 jW_writeVariable_51
            rw [ki, ki, ki, ci, c27, j2]
            simp only [dq_self]
            rcases hbn with rfl | rfl
            · rw [if_pos (show nI 0 = 0 from nI_0), Int32.sub_zero, nI_1]
              rfl
            · rw [if_neg (show ¬ nI 1 = 0 by decide), nI_1]
              rw [show nI u - 1 = nI (u - 1) from es]
          unfold jW_writeVariable_8_c
          rw [if_pos hlt, if_pos hpos, dq_self, dq_self, h35]
          by_cases gu : (0 : Int32) < nI u
          · rw [if_pos gu]
          · rw [if_neg gu, ki, ci, c27]
            have hu0 : u = 0 := by
              by_cases z : u = 0
              · exact z
              · exact absurd (nI_lt (a := 0) (by omega) (by omega)) gu
            have hb0 : bn = 0 := by omega
            rw [hb0, if_pos (show nI 0 = 0 from nI_0)]
        · rw [← r9]
          unfold jR_variable_10
          refine sm_lp_eq ?_
          show jR_variable_10_c (nI h) (nI i) (nI u) [] Mm = _
          have h24 : jR_variable_24 (nI h) (nI i) (nI u) [] Mm = some (.inl (nI (h + 1), nI j, nI (u - bn), Mm)) := by
            unfold jR_variable_24 jR_variable_40
            rw [ki2, ki2, ki2, ci, m43, j3]
            simp only [dq_self]
            rcases hbn with rfl | rfl
            · rw [if_pos (show nI 0 = 0 from nI_0), Int32.sub_zero, nI_1]
              rfl
            · rw [if_neg (show ¬ nI 1 = 0 by decide), nI_1]
              rw [show nI u - 1 = nI (u - 1) from es]
          unfold jR_variable_10_c
          rw [ki2, ci, m43, dq_self, h24]
          rcases hbn with rfl | rfl
          · rw [if_pos (show nI 0 = 0 from nI_0)]
          · rw [if_neg (show ¬ nI 1 = 0 by decide), if_pos (show (0 : Int32) < nI u from nI_lt (a := 0) (by omega) (by omega))]
      rcases j6 with ⟨c27, m43, bd⟩ | ⟨c27, m43, bd⟩
      · rw [bd] at hget
        match u, hget with
        | 0, hget =>
          have et : w = t := Option.some.inj hget
          subst et
          refine ⟨i, h, by omega, hi, hh, ⟨j, j4⟩, j5, by rw [c27]; decide, by rw [m43]; decide, ?_, ?_⟩
          · cases h67 : jW_writeVariable_67 d0 d1 d2 d3 p (nI i) (nI h) Mc with
            | some r =>
              unfold jW_writeVariable_8
              refine sm_lp_end ?_
              show jW_writeVariable_8_c d0 d1 d2 d3 p (nI i) (nI 0) (nI h) Mc = _
              unfold jW_writeVariable_8_c
              rw [if_pos hlt, if_pos hpos, if_neg (show ¬ (0 : Int32) < nI 0 by decide), ki, ci, c27, if_neg (by decide), dq_self, h67]
              rfl
            | none =>
              cases hl : jW_writeVariable_8 d0 d1 d2 d3 p (nI i) (nI 0) (nI h) Mc with
              | none => rfl
              | some r =>
                exfalso
                obtain ⟨n, hn⟩ := sm_lp_it hl
                cases n with
                | zero => cases hn
                | succ n =>
                  unfold sm_it at hn
                  have hb : jW_writeVariable_8_b d0 d1 d2 d3 p (nI i, nI 0, nI h, Mc) = none := by
                    show jW_writeVariable_8_c d0 d1 d2 d3 p (nI i) (nI 0) (nI h) Mc = _
                    unfold jW_writeVariable_8_c
                    rw [if_pos hlt, if_pos hpos, if_neg (show ¬ (0 : Int32) < nI 0 by decide), ki, ci, c27, if_neg (by decide), dq_self, h67]
                    rfl
                  rw [hb] at hn
                  cases hn
          · have hc : jR_variable_10_c (nI h) (nI i) (nI 0) [] Mm = sm_inr (if h = 0 then (sm_bi (jR_emit 5 2 1 1 [] Mm) (fun x1 E1 M1 => sm_dq E1 [] (jR_variable_68 (nI 0) (nI i) [] M1))) else jR_variable_68 (nI h) (nI i) [] Mm) := by
              unfold jR_variable_10_c
              rw [ki2, ci, m43, if_neg (show ¬ (1 : Int32) = 0 by decide), if_neg (show ¬ (0 : Int32) < nI 0 by decide)]
              by_cases gh : h = 0
              · subst gh
                rw [if_pos (show nI 0 = 0 from nI_0), if_pos rfl]
                cases jR_emit 5 2 1 1 [] Mm with
                | none => rfl
                | some s =>
                  obtain ⟨s1, s2, s3⟩ := s
                  show sm_dq s2 [] (sm_inr (jR_variable_68 (nI 0) (nI i) [] s3)) = sm_inr (sm_dq s2 [] (jR_variable_68 (nI 0) (nI i) [] s3))
                  unfold sm_dq
                  by_cases g : s2 = []
                  · rw [if_pos g, if_pos g]
                  · rw [if_neg g, if_neg g]; rfl
              · rw [if_neg (fun q => gh (nI_inj (by omega) (by decide) (show nI h = nI 0 from q.trans nI_0.symm))), if_neg gh]
            generalize (if h = 0 then (sm_bi (jR_emit 5 2 1 1 [] Mm) (fun x1 E1 M1 => sm_dq E1 [] (jR_variable_68 (nI 0) (nI i) [] M1))) else jR_variable_68 (nI h) (nI i) [] Mm) = R at hc ⊢
            cases R with
            | some r =>
              unfold jR_variable_10
              exact sm_lp_end (by show jR_variable_10_c (nI h) (nI i) (nI 0) [] Mm = _; rw [hc]; rfl)
            | none =>
              cases hl : jR_variable_10 (nI h) (nI i) (nI 0) [] Mm with
              | none => rfl
              | some r =>
                exfalso
                obtain ⟨n, hn⟩ := sm_lp_it hl
                cases n with
                | zero => cases hn
                | succ n =>
                  unfold sm_it at hn
                  have hb : jR_variable_10_b [] (nI h, nI i, nI 0, Mm) = none := by
                    show jR_variable_10_c (nI h) (nI i) (nI 0) [] Mm = _
                    rw [hc]
                    rfl
                  rw [hb] at hn
                  cases hn
        | u + 1, hget => exact step 1 (Or.inr rfl) c27 m43 (by omega) (Or.inr (by omega)) hget
      · rw [bd] at hget
        exact step 0 (Or.inl rfl) c27 m43 (by omega) (Or.inl rfl) hget
end
