/-! what a call must be like: by program -/
def lc_two (jc jr : Option sm_S) (P : sm_D → sm_M → sm_M → Prop) : Prop := ∃ (r : Int32) (D : sm_D) (Mc Mm : sm_M), jc = some (r, D, Mc) ∧ jr = some (r, [], Mm) ∧ P D Mc Mm
def lc_ev (x : Int32) (D : sm_D) (Mc Mm : sm_M) (P : sm_D → sm_M → sm_M → Prop) : Prop := ∃ (b k : Int32) (Mm1 Mm2 : sm_M), jR_evaluate x [] Mm = some (b, [], Mm1) ∧ jR_thrown [] Mm1 = some (k, [], Mm2) ∧ (
  (k = 1 ∧ ∃ M1, jE_has x D Mc = some (0, D, M1) ∧ P D M1 Mm2) ∨
  (k = 2 ∧ ∃ r1 t M1 M2, jE_has x D Mc = some (r1, D, M1) ∧ r1 ≠ 0 ∧ jA_typeOf x D M1 = some (t, D, M2) ∧ t ≠ 0 ∧ P D M2 Mm2) ∨
  (k = 3 ∧ ∃ r1 v M1 M2 M3, jE_has x D Mc = some (r1, D, M1) ∧ r1 ≠ 0 ∧ jA_typeOf x D M1 = some (0, D, M2) ∧ jV_answerOf x D M2 = some (v, D, M3) ∧ M3 18 9 ≠ 0 ∧ P D M3 Mm2) ∨
  (k = 0 ∧ ∃ r1 M1 M2 M3, jE_has x D Mc = some (r1, D, M1) ∧ r1 ≠ 0 ∧ jA_typeOf x D M1 = some (0, D, M2) ∧ jV_answerOf x D M2 = some (b, D, M3) ∧ M3 18 9 = 0 ∧ P D M3 Mm2))
def lc_co (x : Int32) (D : sm_D) (Mc Mm : sm_M) (P : sm_D → sm_M → sm_M → Prop) : Prop := ∃ (b k : Int32) (Mm1 Mm2 : sm_M), jR_compile x [] Mm = some (b, [], Mm1) ∧ jR_thrown [] Mm1 = some (k, [], Mm2) ∧ (
  (k = 1 ∧ ∃ M1, jE_has x D Mc = some (0, D, M1) ∧ P D M1 Mm2) ∨
  (k = 2 ∧ ∃ r1 t M1 M2, jE_has x D Mc = some (r1, D, M1) ∧ r1 ≠ 0 ∧ jA_typeOf x D M1 = some (t, D, M2) ∧ t ≠ 0 ∧ P D M2 Mm2) ∨
  (k = 3 ∧ ∃ d0 d1 d2 d3 d4 e4 r1 M1 M2 M3 M4, D = [d0, d1, d2, d3, d4] ∧ ((d0 = 40 ∧ d1 = 50) ∨ (d0 = 50 ∧ d1 = 40)) ∧ jE_has x D Mc = some (r1, D, M1) ∧ r1 ≠ 0 ∧ jA_typeOf x D M1 = some (0, D, M2) ∧ jW_translate d1 d0 d1 d2 d3 d4 x M2 = some (0, [d0, d1, d2, d3, e4], M3) ∧ jT_forgetFrom (M2 1 7) [d0, d1, d2, d3, e4] M3 = some (0, [d0, d1, d2, d3, e4], M4) ∧ P [d0, d1, d2, d3, e4] M4 Mm2) ∨
  (k = 0 ∧ ∃ d0 d1 d2 d3 d4 e3 e4 r1 r vd M1 M2 M3 M4 M6, D = [d0, d1, d2, d3, d4] ∧ ((d0 = 40 ∧ d1 = 50) ∨ (d0 = 50 ∧ d1 = 40)) ∧ jE_has x D Mc = some (r1, D, M1) ∧ r1 ≠ 0 ∧ jA_typeOf x D M1 = some (0, D, M2) ∧ jW_translate d1 d0 d1 d2 d3 d4 x M2 = some (r, [d0, d1, d2, d3, e4], M3) ∧ r ≠ 0 ∧ jK_verdictOn d1 d0 d1 d2 d3 e4 M3 = some (vd, [d0, d1, d2, e3, e4], M4) ∧ jT_forgetFrom (M2 1 7) [d0, d1, d2, e3, e4] (sm_up M4 d1 14 vd) = some (0, [d0, d1, d2, e3, e4], M6) ∧ bgM M6 d1 6 = b ∧ P [d1, d0, d1, e3, e4] (bgM M6) Mm2))
def lw_step (o : Nat) (a1 a2 a3 a4 a5 : Int32) (d0 d1 d2 d3 d4 : Nat) (Mc Mm : sm_M) (P : sm_D → sm_M → sm_M → Prop) : Prop := match o with
  | 0 => lc_two (jA_type a1 a2 a3 a4 [d0, d1, d2, d3, d4] Mc) (jR_type a1 a2 a3 a4 [] Mm) P
  | 1 => lc_two (jA_size a1 [d0, d1, d2, d3, d4] Mc) (jR_size a1 [] Mm) P
  | 2 => lc_two (jA_make a1 a2 a3 a4 a5 [d0, d1, d2, d3, d4] Mc) (jR_make a1 a2 a3 a4 a5 [] Mm) P
  | 3 => lc_two (jA_is a1 a2 [d0, d1, d2, d3, d4] Mc) (jR_is a1 a2 [] Mm) P
  | 4 => lc_ev a1 [d0, d1, d2, d3, d4] Mc Mm P
  | 5 => lc_two (jA_steps [d0, d1, d2, d3, d4] Mc) (jR_steps [] Mm) P
  | 6 => lc_co a1 [d0, d1, d2, d3, d4] Mc Mm P
  | 7 => lc_two (jA_clear d0 d1 d2 d3 d4 Mc) (jR_clear [] Mm) P
  | 8 => lc_two (jA_block d0 d1 d2 d3 d4 a1 a2 a3 Mc) (jR_block a1 a2 a3 [] Mm) P
  | 9 => lc_two (jA_add d0 d1 d2 d3 d4 a1 a2 a3 a4 Mc) (jR_add a1 a2 a3 a4 [] Mm) P
  | 10 => lc_two (jA_check d0 d1 d2 d3 d4 Mc) (jR_check [] Mm) P
  | 11 => lc_two (jA_instruction d0 d1 d2 d3 d4 a1 a2 Mc) (jR_instruction a1 a2 [] Mm) P
  | 12 => lc_two (jA_look d0 d1 d2 d3 d4 a1 a2 Mc) (jR_look a1 a2 [] Mm) P
  | 13 => lc_two (jA_run d0 d1 d2 d3 d4 a1 Mc) (jR_run a1 [] Mm) P
  | 14 => lc_two (jA_state [d0, d1, d2, d3, d4] Mc) (jR_state [] Mm) P
  | _ => lc_two (jA_register a1 a2 [d0, d1, d2, d3, d4] Mc) (jR_register a1 a2 [] Mm) P
