/-! the first call on fresh objects: what needs no type -/
def fr_C (M : sm_M) : Prop := tabC M [tyN] ∧ M 9 6 = 0 ∧ M 18 8 = 0 ∧ M 33 8 = 0 ∧ M 33 9 = 0 ∧ M 33 10 = 0 ∧ M 40 6 = 0 ∧ M 40 11 = 0 ∧ M 40 13 = 0 ∧ (∀ k, 1 ≤ k → k ≤ 5 → M 34 k = if k = 1 then 1 else 0) ∧ ∀ k, 1 ≤ k → k ≤ 5 → M 35 k = 0
def fr_M (M : sm_M) : Prop := tabM M [tyN] ∧ M 1 7 = nI 1 ∧ M 7 0 = 0 ∧ M 1 13 = 0 ∧ M 1 29 = 0 ∧ M 1 37 = 0 ∧ M 1 38 = 0 ∧ M 1 39 = 0 ∧ M 1 66 = 0 ∧ M 1 67 = 0 ∧ M 1 68 = -1 ∧ (∀ k, 1 ≤ k → k ≤ 5 → M 47 k = if k = 1 then 1 else 0) ∧ ∀ k, 1 ≤ k → k ≤ 5 → M 48 k = 0
def p1_P : sm_D → sm_M → sm_M → Prop := fun D _ _ => ∃ d0 d1 d2 d3 d4, D = [d0, d1, d2, d3, d4] ∧ [d0] ∈ gC
theorem p1_0 {d1 d2 d3 d4 : Nat} {Mc Mm : sm_M} : p1_P [40, d1, d2, d3, d4] Mc Mm := ⟨40, d1, d2, d3, d4, rfl, by decide⟩
theorem k1_5 {P : Nat → Prop} (h1 : P 1) (h2 : P 2) (h3 : P 3) (h4 : P 4) (h5 : P 5) : ∀ k, 1 ≤ k → k ≤ 5 → P k := by
  intro k a b
  match k, a, b with
  | 1, _, _ => exact h1
  | 2, _, _ => exact h2
  | 3, _, _ => exact h3
  | 4, _, _ => exact h4
  | 5, _, _ => exact h5
theorem fr_C0 {M : sm_M} (h : cls0 M) : fr_C M := by
  obtain ⟨M1, hT, rfl⟩ := h
  exact ⟨hT, rfl, rfl, rfl, rfl, rfl, rfl, rfl, rfl, k1_5 rfl rfl rfl rfl rfl, k1_5 rfl rfl rfl rfl rfl⟩
theorem fr_M0 {M : sm_M} (h : mdl0 M) : fr_M M := by
  obtain ⟨M1, hT, h1, h2, rfl⟩ := h
  refine ⟨hT, rfl, rfl, h1 13 (by decide), h1 29 (by decide), h1 37 (by decide), h1 38 (by decide), h1 39 (by decide), rfl, rfl, rfl, ?_, ?_⟩
  · refine k1_5 ?_ ?_ ?_ ?_ ?_ <;> rfl
  · refine k1_5 ?_ ?_ ?_ ?_ ?_ <;> rfl
section
variable {Mc Mm : sm_M} {D : sm_D}
theorem e_has0 {x : Int32} (h : Mc 9 6 = 0) : jE_has x D Mc = some (0, D, Mc) := by
  unfold jE_has
  by_cases hx : x < 0
  · rw [if_pos hx]; rfl
  · rw [if_neg hx, h, if_neg hx]; rfl
theorem r_isE0 {x : Int32} (h : Mm 1 13 = 0) : jR_isExpression x D Mm = some (0, D, Mm) := by
  unfold jR_isExpression
  by_cases hx : x < 0
  · rw [if_pos hx]; rfl
  · rw [if_neg hx, h, if_neg hx]; rfl
theorem up10 {v : Int32} {j : Nat} (h : j ≠ 0) : sm_up Mm 1 0 v 1 j = Mm 1 j := up_as h
theorem f_is (hC : fr_C Mc) (hM : fr_M Mm) {a b : Int32} : lc_two (jA_is a b [40, 50, 40, 0, 0] Mc) (jR_is a b [] Mm) p1_P := by
  refine ⟨0, [40, 50, 40, 0, 0], Mc, sm_up Mm 1 0 0, ?_, ?_, p1_0⟩
  · unfold jA_is
    rw [e_has0 hC.2.1, bi_some, dq_self, if_pos rfl]
    rfl
  · simp only [jR_is, sm_wr]
    rw [r_isE0 (by rw [up10 (by decide)]; exact hM.2.2.2.1), bi_some, dq_self, if_pos rfl]
    rfl
theorem f_ev (hC : fr_C Mc) (hM : fr_M Mm) {x : Int32} : lc_ev x [40, 50, 40, 0, 0] Mc Mm p1_P := by
  refine ⟨0, 1, sm_up (sm_up Mm 1 0 0) 1 0 1, _, ?_, rfl, Or.inl ⟨rfl, Mc, e_has0 hC.2.1, p1_0⟩⟩
  simp only [jR_evaluate, sm_wr]
  rw [r_isE0 (by rw [up10 (by decide)]; exact hM.2.2.2.1), bi_some, dq_self, if_pos rfl]
  rfl
theorem f_co (hC : fr_C Mc) (hM : fr_M Mm) {x : Int32} : lc_co x [40, 50, 40, 0, 0] Mc Mm p1_P := by
  refine ⟨0, 1, sm_up (sm_up Mm 1 0 0) 1 0 1, _, ?_, rfl, Or.inl ⟨rfl, Mc, e_has0 hC.2.1, p1_0⟩⟩
  simp only [jR_compile, sm_wr]
  rw [r_isE0 (by rw [up10 (by decide)]; exact hM.2.2.2.1), bi_some, dq_self, if_pos rfl]
  rfl
theorem f_steps (hC : fr_C Mc) (hM : fr_M Mm) : lc_two (jA_steps [40, 50, 40, 0, 0] Mc) (jR_steps [] Mm) p1_P := by
  refine ⟨0, [40, 50, 40, 0, 0], Mc, sm_up Mm 1 0 0, ?_, ?_, p1_0⟩
  · unfold jA_steps; rw [hC.2.2.1]
  · simp only [jR_steps, sm_wr]; rw [up10 (by decide), hM.2.2.2.2.1]
theorem f_state (hC : fr_C Mc) (hM : fr_M Mm) : lc_two (jA_state [40, 50, 40, 0, 0] Mc) (jR_state [] Mm) p1_P := by
  refine ⟨0, [40, 50, 40, 0, 0], Mc, sm_up Mm 1 0 0, ?_, ?_, p1_0⟩
  · unfold jA_state; rw [hC.2.2.2.2.2.1]
  · simp only [jR_state, sm_wr]; rw [up10 (by decide), hM.2.2.2.2.2.2.2.2.1]
theorem f_clear : lc_two (jA_clear 40 50 40 0 0 Mc) (jR_clear [] Mm) p1_P := by
  refine ⟨0, [40, 50, 40, 0, 0], bgM (sm_up (sm_up (sm_up (sm_up (sm_up Mc 40 6 0) 40 11 0) 40 12 (-1)) 40 13 0) 40 15 0), rsM (sm_up (sm_up (sm_up (sm_up Mm 1 0 0) 1 38 0) 1 39 0) 1 37 0), ?_, ?_, p1_0⟩
  · unfold jA_clear
    rw [ga_in (by decide)]
    simp only [jC_wipe, sm_wr, bo_0]
    rw [bi_some, dq_self, ga_in (by decide), j_begin, bi_some, dq_self]
  · simp only [jR_clear, sm_wr, bo_0]
    rw [r_restart, bi_some, dq_self]
theorem f_add (hC : fr_C Mc) (hM : fr_M Mm) {a b c d : Int32} : lc_two (jA_add 40 50 40 0 0 a b c d Mc) (jR_add a b c d [] Mm) p1_P := by
  refine ⟨-1, [40, 50, 40, 0, 0], Mc, sm_up Mm 1 0 0, ?_, ?_, p1_0⟩
  · unfold jA_add
    rw [if_pos hC.2.2.2.2.2.2.2.2.1, if_pos hC.2.2.2.2.2.2.2.1, dq_self]
    rfl
  · simp only [jR_add, sm_wr]
    rw [if_pos (by rw [up10 (by decide)]; exact hM.2.2.2.2.2.2.1)]
    rfl
theorem f_ins (hC : fr_C Mc) (hM : fr_M Mm) {a b : Int32} : lc_two (jA_instruction 40 50 40 0 0 a b Mc) (jR_instruction a b [] Mm) p1_P := by
  refine ⟨-1, [40, 50, 40, 0, 0], Mc, sm_up Mm 1 0 0, ?_, ?_, p1_0⟩
  · unfold jA_instruction
    rw [ga_in (by decide)]
    have : jC_tellInstruction 40 a b [40, 50, 40, 0, 0] Mc = some (-1, [40, 50, 40, 0, 0], Mc) := by
      unfold jC_tellInstruction
      by_cases h : a < 0
      · rw [if_pos h]; rfl
      · rw [if_neg h, hC.2.2.2.2.2.2.1, if_neg h]; rfl
    rw [this, bi_some, dq_self]
  · simp only [jR_instruction, sm_wr]
    rw [up10 (by decide), hM.2.2.2.2.2.2.2.1]
    by_cases h : a < 0
    · rw [if_pos h]; rfl
    · rw [if_neg h, if_neg h]; rfl
theorem c_hasB0 {x : Int32} (h : Mc 40 11 = 0) : jC_hasBlock 40 x D Mc = some (0, D, Mc) := by
  unfold jC_hasBlock
  by_cases hx : x < 0
  · rw [if_pos hx]; rfl
  · rw [if_neg hx, h, if_neg hx]; rfl
theorem f_look (hC : fr_C Mc) (hM : fr_M Mm) {a b : Int32} : lc_two (jA_look 40 50 40 0 0 a b Mc) (jR_look a b [] Mm) p1_P := by
  refine ⟨-1, [40, 50, 40, 0, 0], Mc, sm_up Mm 1 0 0, ?_, ?_, p1_0⟩
  · unfold jA_look
    rw [ga_in (by decide)]
    unfold jC_tellBlock
    rw [ga_in (by decide), c_hasB0 hC.2.2.2.2.2.2.2.1, bi_some, dq_self, if_pos rfl, bi_some, dq_self]
  · simp only [jR_look, sm_wr]
    rw [up10 (by decide), hM.2.2.2.2.2.2.1]
    by_cases h : a < 0
    · rw [if_pos h]; rfl
    · rw [if_neg h, if_neg h]; rfl
theorem f_reg (hC : fr_C Mc) (hM : fr_M Mm) {a b : Int32} : lc_two (jA_register a b [40, 50, 40, 0, 0] Mc) (jR_register a b [] Mm) p1_P := by
  obtain ⟨-, -, -, -, -, -, -, -, -, c34, c35⟩ := hC
  obtain ⟨-, -, -, -, -, -, -, -, -, -, -, m47, m48⟩ := hM
  have no : (a < 1 ∨ (5 : Int32) < a ∨ b < 0 ∨ (1 : Int32) < b) → lc_two (jA_register a b [40, 50, 40, 0, 0] Mc) (jR_register a b [] Mm) p1_P := by
    intro h
    refine ⟨-1, [40, 50, 40, 0, 0], Mc, sm_up Mm 1 0 0, ?_, ?_, p1_0⟩
    · have : jM_tellRegister a b [40, 50, 40, 0, 0] Mc = some (-1, [40, 50, 40, 0, 0], Mc) := by
        unfold jM_tellRegister
        by_cases h1 : a < 1
        · rw [if_pos h1]; rfl
        · by_cases h2 : (5 : Int32) < a
          · rw [if_neg h1, if_pos h2]; rfl
          · by_cases h3 : b < 0
            · rw [if_neg h1, if_neg h2, if_pos h3]; rfl
            · have h4 : (1 : Int32) < b := by rcases h with h | h | h | h <;> first | exact h | contradiction
              rw [if_neg h1, if_neg h2, if_neg h3, if_pos h4]; rfl
      unfold jA_register
      rw [this, bi_some, dq_self]
    · simp only [jR_register, sm_wr]
      by_cases h1 : a < 1
      · rw [show jR_isRegister a [] (sm_up Mm 1 0 0) = some (0, [], sm_up Mm 1 0 0) by unfold jR_isRegister; rw [if_pos h1]; rfl, bi_some, dq_self, if_pos rfl]; rfl
      · by_cases h2 : (5 : Int32) < a
        · rw [show jR_isRegister a [] (sm_up Mm 1 0 0) = some (0, [], sm_up Mm 1 0 0) by unfold jR_isRegister; rw [if_neg h1, if_pos h2]; rfl, bi_some, dq_self, if_pos rfl]; rfl
        · rw [show jR_isRegister a [] (sm_up Mm 1 0 0) = some (1, [], sm_up Mm 1 0 0) by unfold jR_isRegister; rw [if_neg h1, if_neg h2]; rfl, bi_some, dq_self, if_neg (by decide)]
          by_cases h3 : b < 0
          · rw [if_pos h3]; rfl
          · have h4 : (1 : Int32) < b := by rcases h with h | h | h | h <;> first | exact h | contradiction
            rw [if_neg h3, if_pos h4]; rfl
  by_cases h1 : a < 1
  · exact no (Or.inl h1)
  · by_cases h2 : (5 : Int32) < a
    · exact no (Or.inr (Or.inl h2))
    · by_cases h3 : b < 0
      · exact no (Or.inr (Or.inr (Or.inl h3)))
      · by_cases h4 : (1 : Int32) < b
        · exact no (Or.inr (Or.inr (Or.inr h4)))
        · obtain ⟨j, hj, rfl⟩ : ∃ j : Nat, (1 ≤ j ∧ j ≤ 5) ∧ a = nI j := by
            have h5 : ¬ a < 0 := fun q => h1 (Int32.lt_trans q (by decide))
            obtain ⟨j, hj, rfl⟩ := nI_of2 (M := 5) (n := 5) (by decide) h5 (Int32.not_lt.mp h2)
            refine ⟨j, ⟨?_, hj⟩, rfl⟩
            by_cases hj0 : j = 0
            · subst hj0; exact absurd (by decide) h1
            · omega
          have hck : ∀ {ρ : Type} {q : Option ρ}, sm_ck (nI j) 6 q = q := ck_nI (by omega) (by decide)
          have hcl : (nI j).toNatClampNeg = j := nI_clamp (by omega)
          have c1 : ∀ {v : Nat → Int32}, True := fun {_} => trivial
          have hreg : jR_isRegister (nI j) [] (sm_up Mm 1 0 0) = some (1, [], sm_up Mm 1 0 0) := by unfold jR_isRegister; rw [if_neg h1, if_neg h2]; rfl
          by_cases h0 : b = 0
          · refine ⟨if j = 1 then 1 else 0, [40, 50, 40, 0, 0], Mc, sm_up Mm 1 0 0, ?_, ?_, p1_0⟩
            · unfold jA_register jM_tellRegister
              rw [if_neg h1, if_neg h2, if_neg h3, if_neg h4, if_pos h0, hck, hcl]
              unfold jM_tellRegister_40
              rw [bi_some, dq_self, c34 j hj.1 hj.2]
            · simp only [jR_register, sm_wr]
              rw [hreg, bi_some, dq_self, if_neg (by decide), if_neg h3, if_neg h4, if_pos h0, hck, hcl]
              unfold jR_register_42
              rw [up_ne (by decide), m47 j hj.1 hj.2]
          · refine ⟨0, [40, 50, 40, 0, 0], Mc, sm_up Mm 1 0 0, ?_, ?_, p1_0⟩
            · unfold jA_register jM_tellRegister
              rw [if_neg h1, if_neg h2, if_neg h3, if_neg h4, if_neg h0, hck, hcl]
              unfold jM_tellRegister_40
              rw [bi_some, dq_self, c35 j hj.1 hj.2]
            · simp only [jR_register, sm_wr]
              rw [hreg, bi_some, dq_self, if_neg (by decide), if_neg h3, if_neg h4, if_neg h0, hck, hcl]
              unfold jR_register_42
              rw [up_ne (by decide), m48 j hj.1 hj.2]
end
