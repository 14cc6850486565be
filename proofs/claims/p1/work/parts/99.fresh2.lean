/-! the first call on fresh objects: check and run -/
section
variable {Mc Mm : sm_M} {D : sm_D}
theorem f_check (hC : fr_C Mc) (hM : fr_M Mm) : lc_two (jA_check 40 50 40 0 0 Mc) (jR_check [] Mm) p1_P := by
  have hB := hC.2.2.2.2.2.2.2.1
  refine ⟨0, [40, 50, 40, 40, 0], Mc, sm_up Mm 1 0 0, ?_, ?_, p1_0⟩
  · have h1 : jC_askedType 40 0 1 [40, 50, 40, 40, 0] Mc = some (-1, [40, 50, 40, 40, 0], Mc) := by
      unfold jC_askedType
      rw [ga_in (by decide), c_hasB0 hB, bi_some, dq_self, if_pos rfl, eqp_self]
      unfold jC_askedType_22
      rw [eqp_self]
      unfold jC_askedType_23
      rw [if_pos rfl]
      rfl
    have h2 : jK_beginsRight 40 50 40 40 0 Mc = some (0, [40, 50, 40, 40, 0], Mc) := by
      unfold jK_beginsRight
      rw [ga_in (by decide), h1, bi_some, dq_self, ga_in (by decide), c_hasB0 hB, bi_some, dq_self, if_pos rfl, dq_self]
      unfold jK_beginsRight_60
      rw [dq_self]
      unfold jK_beginsRight_61
      rw [bo_0]
    unfold jA_check
    rw [if_pos hC.2.2.2.2.2.2.2.2.1, ga_in (by decide)]
    unfold jK_verdictOn
    rw [ga_in (by decide), h2, bi_some, dq_self, if_pos rfl, bi_some, dq_self]
  · simp only [jR_check, sm_wr]
    rw [if_pos (by rw [up10 (by decide)]; exact hM.2.2.2.2.2.2.1)]
    rfl
theorem m_perf0 (hC : fr_C Mc) : jM_perform 40 50 40 0 0 Mc = some (0, [40, 50, 40, 0, 0], sm_up Mc 33 10 2) := by
  have hB := hC.2.2.2.2.2.2.2.1
  have hl : jC_lengthOf 40 (Mc 33 8) [40, 50, 40, 0, 0] Mc = some (0, [40, 50, 40, 0, 0], Mc) := by
    unfold jC_lengthOf
    rw [ga_in (by decide), c_hasB0 hB, bi_some, dq_self, if_pos rfl]
    rfl
  unfold jM_perform
  rw [ga_in (by decide), hl, bi_some, dq_self, if_neg (by rw [hC.2.2.2.2.1]; decide)]
  simp only [jM_stop, sm_wr, bo_0, bi_some, dq_self]
theorem f_run (hC : fr_C Mc) (hM : fr_M Mm) {n : Int32} : lc_two (jA_run 40 50 40 0 0 n Mc) (jR_run n [] Mm) p1_P := by
  obtain ⟨-, -, -, -, -, m38, -, m66, m67, m68, -, -⟩ := hM.2
  have s10 := hC.2.2.2.2.2.1
  by_cases h1 : n < 0
  · refine ⟨-1, [40, 50, 40, 0, 0], Mc, sm_up Mm 1 0 0, ?_, ?_, p1_0⟩
    · unfold jA_run jA_run_11 jA_run_23
      rw [if_pos h1, dq_self, dq_self]
    · simp only [jR_run, sm_wr]
      rw [if_pos h1]; rfl
  · by_cases h2 : (1000 : Int32) < n
    · refine ⟨-1, [40, 50, 40, 0, 0], Mc, sm_up Mm 1 0 0, ?_, ?_, p1_0⟩
      · unfold jA_run jA_run_11 jA_run_23
        rw [if_neg h1, if_pos h2, dq_self, dq_self]
      · simp only [jR_run, sm_wr]
        rw [if_neg h1, if_pos h2]; rfl
    · have fin : ∀ {Mc' Mm' : sm_M}, jM_goOn_4 40 50 40 0 0 n 0 0 Mc = some (0, [40, 50, 40, 0, 0], Mc') → jR_run_20 n 0 [] (sm_up Mm 1 0 0) = some (0, [], Mm') → lc_two (jA_run 40 50 40 0 0 n Mc) (jR_run n [] Mm) p1_P := by
        intro Mc' Mm' hc hm
        refine ⟨0, [40, 50, 40, 0, 0], Mc', Mm', ?_, ?_, p1_0⟩
        · unfold jA_run jM_goOn
          rw [if_neg h1, if_neg h2, dq_self, hc, bi_some, dq_self, dq_self]
          rfl
        · simp only [jR_run, sm_wr]
          rw [if_neg h1, if_neg h2]; exact hm
      by_cases h0 : (0 : Int32) < n
      · refine fin (Mc' := sm_up Mc 33 10 2) (Mm' := sm_up (sm_up (sm_up (sm_up Mm 1 0 0) 1 68 0) 1 67 (Mm 1 67)) 1 66 2) ?_ ?_
        · unfold jM_goOn_4
          rw [sm_lp_eq (s' := (n, 0, 1, sm_up Mc 33 10 2)) ?_]
          · refine sm_lp_end ?_
            show jM_goOn_4_c 40 50 40 0 0 n 0 1 (sm_up Mc 33 10 2) = _
            unfold jM_goOn_4_c
            by_cases h3 : (1 : Int32) < n
            · rw [if_pos h3, up_at, if_neg (by decide), dq_self]; rfl
            · rw [if_neg h3, dq_self]; rfl
          · show jM_goOn_4_c 40 50 40 0 0 n 0 0 Mc = _
            unfold jM_goOn_4_c
            rw [if_pos h0, if_pos s10, ga_in (by decide), m_perf0 hC, bi_some, dq_self, if_pos rfl, dq_self]
            unfold jM_goOn_29
            rw [dq_self]
            rfl
        · have a66 : sm_up Mm 1 0 0 1 66 = 0 := by rw [up10 (by decide)]; exact m66
          have a68 : sm_up Mm 1 0 0 1 68 = -1 := by rw [up10 (by decide)]; exact m68
          have a38 : sm_up Mm 1 0 0 1 38 = 0 := by rw [up10 (by decide)]; exact m38
          have a67 : sm_up (sm_up Mm 1 0 0) 1 68 0 1 67 = Mm 1 67 := by rw [up_as (by decide), up10 (by decide)]
          have b68 : sm_up (sm_up Mm 1 0 0) 1 68 0 1 68 = 0 := up_at
          have b66 : sm_up (sm_up (sm_up Mm 1 0 0) 1 68 0) 1 67 (Mm 1 67) 1 66 = 0 := by rw [up_as (by decide), up_as (by decide)]; exact a66
          unfold jR_run_20
          rw [sm_lp_eq (s' := (n, 0, sm_up (sm_up (sm_up (sm_up Mm 1 0 0) 1 68 0) 1 67 (Mm 1 67)) 1 66 2)) ?_]
          · refine sm_lp_end ?_
            show jR_run_20_c n 0 [] (sm_up (sm_up (sm_up (sm_up Mm 1 0 0) 1 68 0) 1 67 (Mm 1 67)) 1 66 2) = _
            unfold jR_run_20_c
            rw [if_pos h0, up_at, if_neg (by decide)]; rfl
          · show jR_run_20_c n 0 [] (sm_up Mm 1 0 0) = _
            have hgo : jR_go 0 [] (sm_up Mm 1 0 0) = some (0, [], sm_up Mm 1 0 0) := by
              unfold jR_go
              rw [a38, if_neg (by decide), bo_0]
            unfold jR_run_20_c
            rw [if_pos h0, if_pos a66, if_pos (by rw [a68]; decide), hgo, bi_some, dq_self, if_pos rfl]
            simp only [sm_wr]
            rw [dq_self]
            unfold jR_run_52
            rw [a67, b68, m67, if_neg (by decide), dq_self]
            unfold jR_run_77 jR_run_78
            rw [dq_self, if_pos rfl, dq_self]
            unfold jR_run_91
            rw [if_pos rfl, dq_self]
            simp only [jR_run_107, sm_wr]
            rw [m67] at b66
            rw [if_pos trivial, if_neg (by rw [b66]; decide), dq_self]
            simp only [jR_run_132, sm_wr]
            rw [dq_self]
            rfl
      · refine fin (Mc' := Mc) (Mm' := sm_up Mm 1 0 0) ?_ ?_
        · unfold jM_goOn_4
          refine sm_lp_end ?_
          show jM_goOn_4_c 40 50 40 0 0 n 0 0 Mc = _
          unfold jM_goOn_4_c
          rw [if_neg h0, dq_self]; rfl
        · unfold jR_run_20
          refine sm_lp_end ?_
          show jR_run_20_c n 0 [] (sm_up Mm 1 0 0) = _
          unfold jR_run_20_c
          rw [if_neg h0]; rfl
end
