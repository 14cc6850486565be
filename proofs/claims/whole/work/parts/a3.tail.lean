/-! the machines step: by program -/
noncomputable def m_tail (p d1 d3 d4 i : Nat) (Mc : sm_M) : Option sm_S := (if (Mc (p + 1) i) = (0 : Int32) then (sm_bi (jM_become (Mc (p + 2) i) (1 : Int32) (Mc (p + 3) i) [p, d1, p, d3, d4] Mc) (fun x14 E14 M14 => sm_dq E14 [p, d1, p, d3, d4] (sm_bo x14 (some (x14, [p, d1, p, d3, d4], M14))))) else (if (Mc (p + 1) i) = (1 : Int32) then (sm_dq [p, d1, p, d3, d4] [p, d1, p, d3, d4] (jM_perform_152 p d1 p d3 d4 (nI i) (Mc (p + 2) i) (Mc (p + 3) i) (Mc (p + 4) i) Mc)) else (if (Mc (p + 1) i) = (2 : Int32) then (sm_dq [p, d1, p, d3, d4] [p, d1, p, d3, d4] (jM_perform_152 p d1 p d3 d4 (nI i) (Mc (p + 2) i) (Mc (p + 3) i) (Mc (p + 4) i) Mc)) else (if (Mc (p + 1) i) = (3 : Int32) then (sm_dq [p, d1, p, d3, d4] [p, d1, p, d3, d4] (jM_perform_152 p d1 p d3 d4 (nI i) (Mc (p + 2) i) (Mc (p + 3) i) (Mc (p + 4) i) Mc)) else (if (Mc (p + 1) i) = (4 : Int32) then (sm_bi (jM_pair (Mc (p + 2) i) (Mc (p + 3) i) (Mc (p + 4) i) [p, d1, p, d3, d4] Mc) (fun x13 E13 M13 => sm_dq E13 [p, d1, p, d3, d4] (sm_bo x13 (some (x13, [p, d1, p, d3, d4], M13))))) else (if (Mc (p + 1) i) = (5 : Int32) then (sm_bi (jM_load (Mc (p + 2) i) (Mc (p + 3) i) (Mc (p + 4) i) [p, d1, p, d3, d4] Mc) (fun x12 E12 M12 => sm_dq E12 [p, d1, p, d3, d4] (sm_bo x12 (some (x12, [p, d1, p, d3, d4], M12))))) else (if (Mc (p + 1) i) = (6 : Int32) then (sm_bi (jM_become (Mc (p + 2) i) (2 : Int32) (Mc (p + 3) i) [p, d1, p, d3, d4] Mc) (fun x11 E11 M11 => sm_dq E11 [p, d1, p, d3, d4] (sm_bo x11 (some (x11, [p, d1, p, d3, d4], M11))))) else (if (Mc (p + 1) i) = (7 : Int32) then (sm_ck (Mc (p + 3) i) 6 (if (Mc 34 (Int32.toNatClampNeg (Mc (p + 3) i))) = (3 : Int32) then (sm_ck (Mc (p + 3) i) 6 (sm_bi (jM_become (Mc (p + 2) i) (4 : Int32) (Mc 35 (Int32.toNatClampNeg (Mc (p + 3) i))) [p, d1, p, d3, d4] Mc) (fun x10 E10 M10 => sm_dq E10 [p, d1, p, d3, d4] (sm_dq [p, d1, p, d3, d4] [p, d1, p, d3, d4] (jM_perform_226 p d1 p d3 d4 x10 M10))))) else (sm_bi (jM_stop (2 : Int32) [p, d1, p, d3, d4] Mc) (fun x9 E9 M9 => sm_dq E9 [p, d1, p, d3, d4] (sm_dq [p, d1, p, d3, d4] [p, d1, p, d3, d4] (jM_perform_226 p d1 p d3 d4 x9 M9)))))) else (if (Mc (p + 1) i) = (8 : Int32) then (sm_bi (jM_unwrap (Mc (p + 2) i) (Mc (p + 3) i) (Mc (p + 4) i) [p, d1, p, d3, d4] Mc) (fun x8 E8 M8 => sm_dq E8 [p, d1, p, d3, d4] (sm_bo x8 (some (x8, [p, d1, p, d3, d4], M8))))) else (if (Mc (p + 1) i) = (9 : Int32) then (sm_bi (sm_ga [p] gC (jM_enter p d1 p d3 d4 (Mc (p + 2) i) Mc)) (fun x7 E7 M7 => sm_dq E7 [p, d1, p, d3, d4] (sm_bo x7 (some (x7, [p, d1, p, d3, d4], M7))))) else (if (Mc (p + 1) i) = (10 : Int32) then (sm_bi (jM_branch p d1 p d3 d4 (Mc (p + 2) i) (Mc (p + 3) i) Mc) (fun x6 E6 M6 => sm_dq E6 [p, d1, p, d3, d4] (sm_bo x6 (some (x6, [p, d1, p, d3, d4], M6))))) else (if (Mc (p + 1) i) = (11 : Int32) then (sm_ck (Mc (p + 2) i) 6 (if (Mc 34 (Int32.toNatClampNeg (Mc (p + 2) i))) = (2 : Int32) then (sm_ck (Mc (p + 2) i) 6 (sm_bi (sm_ga [p] gC (jM_enter p d1 p d3 d4 (Mc 35 (Int32.toNatClampNeg (Mc (p + 2) i))) Mc)) (fun x5 E5 M5 => sm_dq E5 [p, d1, p, d3, d4] (sm_dq [p, d1, p, d3, d4] [p, d1, p, d3, d4] (jM_perform_277 p d1 p d3 d4 x5 M5))))) else (sm_bi (jM_stop (2 : Int32) [p, d1, p, d3, d4] Mc) (fun x4 E4 M4 => sm_dq E4 [p, d1, p, d3, d4] (sm_dq [p, d1, p, d3, d4] [p, d1, p, d3, d4] (jM_perform_277 p d1 p d3 d4 x4 M4)))))) else (sm_wr (sm_up Mc 33 10 (1 : Int32)) (fun N3 => (sm_bo (1 : Int32) (some ((1 : Int32), [p, d1, p, d3, d4], N3)))))))))))))))))
noncomputable def d_tail (i : Nat) (M N1 : sm_M) : Option sm_S := (if (N1 29 i) = (0 : Int32) then (sm_bi (jR_put (M 30 i) (1 : Int32) (M 31 i) [] N1) (fun x10 E10 M10 => sm_dq E10 [] (sm_bo (1 : Int32) (some ((1 : Int32), [], M10))))) else (if (N1 29 i) = (1 : Int32) then (jR_doIt_105 (nI i) (M 30 i) (M 31 i) (M 32 i) [] N1) else (if (N1 29 i) = (2 : Int32) then (jR_doIt_105 (nI i) (M 30 i) (M 31 i) (M 32 i) [] N1) else (if (N1 29 i) = (3 : Int32) then (jR_doIt_105 (nI i) (M 30 i) (M 31 i) (M 32 i) [] N1) else (if (N1 29 i) = (4 : Int32) then (sm_bi (jR_newPair (M 30 i) (M 31 i) (M 32 i) [] N1) (fun x9 E9 M9 => sm_dq E9 [] (sm_bo x9 (some (x9, [], M9))))) else (if (N1 29 i) = (5 : Int32) then (sm_ck (M 31 i) 6 (sm_ck (M 31 i) 6 (if (N1 47 (Int32.toNatClampNeg (M 31 i))) = (3 : Int32) then (if (M 32 i) = (0 : Int32) then (sm_ck (N1 48 (Int32.toNatClampNeg (M 31 i))) 400 (jR_doIt_173 (M 32 i) (N1 48 (Int32.toNatClampNeg (M 31 i))) (M 30 i) (N1 49 (Int32.toNatClampNeg (N1 48 (Int32.toNatClampNeg (M 31 i))))) [] N1)) else (sm_ck (N1 48 (Int32.toNatClampNeg (M 31 i))) 400 (jR_doIt_173 (M 32 i) (N1 48 (Int32.toNatClampNeg (M 31 i))) (M 30 i) (N1 51 (Int32.toNatClampNeg (N1 48 (Int32.toNatClampNeg (M 31 i))))) [] N1))) else (sm_bo (0 : Int32) (some ((0 : Int32), [], N1)))))) else (if (N1 29 i) = (6 : Int32) then (sm_bi (jR_put (M 30 i) (2 : Int32) (M 31 i) [] N1) (fun x8 E8 M8 => sm_dq E8 [] (sm_bo (1 : Int32) (some ((1 : Int32), [], M8))))) else (if (N1 29 i) = (7 : Int32) then (sm_ck (M 31 i) 6 (if (N1 47 (Int32.toNatClampNeg (M 31 i))) = (3 : Int32) then (sm_ck (M 31 i) 6 (sm_bi (jR_put (M 30 i) (4 : Int32) (N1 48 (Int32.toNatClampNeg (M 31 i))) [] N1) (fun x7 E7 M7 => sm_dq E7 [] (sm_bo (1 : Int32) (some ((1 : Int32), [], M7)))))) else (sm_bo (0 : Int32) (some ((0 : Int32), [], N1))))) else (if (N1 29 i) = (8 : Int32) then (sm_bi (jR_open (M 30 i) (M 31 i) (M 32 i) [] N1) (fun x6 E6 M6 => sm_dq E6 [] (sm_bo x6 (some (x6, [], M6))))) else (if (N1 29 i) = (9 : Int32) then (sm_bi (jR_go (M 30 i) [] N1) (fun x5 E5 M5 => sm_dq E5 [] (sm_bo x5 (some (x5, [], M5))))) else (if (N1 29 i) = (10 : Int32) then (sm_ck (M 30 i) 6 (if (N1 47 (Int32.toNatClampNeg (M 30 i))) = (1 : Int32) then (sm_ck (M 30 i) 6 (if (N1 48 (Int32.toNatClampNeg (M 30 i))) = (0 : Int32) then (jR_doIt_277 [] N1) else (sm_bi (jR_go (M 31 i) [] N1) (fun x4 E4 M4 => sm_dq E4 [] (if x4 = (0 : Int32) then (jR_doIt_281 [] M4) else (jR_doIt_277 [] M4)))))) else (jR_doIt_281 [] N1))) else (if (N1 29 i) = (11 : Int32) then (sm_ck (M 30 i) 6 (if (N1 47 (Int32.toNatClampNeg (M 30 i))) = (2 : Int32) then (sm_ck (M 30 i) 6 (sm_bi (jR_go (N1 48 (Int32.toNatClampNeg (M 30 i))) [] N1) (fun x3 E3 M3 => sm_dq E3 [] (if x3 = (0 : Int32) then (jR_doIt_310 [] M3) else (jR_doIt_311 (1 : Int32) [] M3))))) else (jR_doIt_310 [] N1))) else (sm_wr (sm_up N1 1 66 (1 : Int32)) (fun N2 => (sm_bo (1 : Int32) (some ((1 : Int32), [], N2)))))))))))))))))
theorem mt_0 {p d1 d3 d4 i : Nat} {Mc : sm_M} (h : Mc (p + 1) i = 0) : m_tail p d1 d3 d4 i Mc = (sm_bi (jM_become (Mc (p + 2) i) (1 : Int32) (Mc (p + 3) i) [p, d1, p, d3, d4] Mc) (fun x14 E14 M14 => sm_dq E14 [p, d1, p, d3, d4] (sm_bo x14 (some (x14, [p, d1, p, d3, d4], M14))))) := by
  unfold m_tail
  rw [h, if_pos rfl]
theorem dt_0 {i : Nat} {M N1 : sm_M} (h : N1 29 i = 0) : d_tail i M N1 = (sm_bi (jR_put (M 30 i) (1 : Int32) (M 31 i) [] N1) (fun x10 E10 M10 => sm_dq E10 [] (sm_bo (1 : Int32) (some ((1 : Int32), [], M10))))) := by
  unfold d_tail
  rw [h, if_pos rfl]
theorem mt_1 {p d1 d3 d4 i : Nat} {Mc : sm_M} (h : Mc (p + 1) i = 1) : m_tail p d1 d3 d4 i Mc = (sm_dq [p, d1, p, d3, d4] [p, d1, p, d3, d4] (jM_perform_152 p d1 p d3 d4 (nI i) (Mc (p + 2) i) (Mc (p + 3) i) (Mc (p + 4) i) Mc)) := by
  unfold m_tail
  rw [h, if_neg (show ¬ (1 : Int32) = 0 by decide), if_pos rfl]
theorem dt_1 {i : Nat} {M N1 : sm_M} (h : N1 29 i = 1) : d_tail i M N1 = (jR_doIt_105 (nI i) (M 30 i) (M 31 i) (M 32 i) [] N1) := by
  unfold d_tail
  rw [h, if_neg (show ¬ (1 : Int32) = 0 by decide), if_pos rfl]
theorem mt_2 {p d1 d3 d4 i : Nat} {Mc : sm_M} (h : Mc (p + 1) i = 2) : m_tail p d1 d3 d4 i Mc = (sm_dq [p, d1, p, d3, d4] [p, d1, p, d3, d4] (jM_perform_152 p d1 p d3 d4 (nI i) (Mc (p + 2) i) (Mc (p + 3) i) (Mc (p + 4) i) Mc)) := by
  unfold m_tail
  rw [h, if_neg (show ¬ (2 : Int32) = 0 by decide), if_neg (show ¬ (2 : Int32) = 1 by decide), if_pos rfl]
theorem dt_2 {i : Nat} {M N1 : sm_M} (h : N1 29 i = 2) : d_tail i M N1 = (jR_doIt_105 (nI i) (M 30 i) (M 31 i) (M 32 i) [] N1) := by
  unfold d_tail
  rw [h, if_neg (show ¬ (2 : Int32) = 0 by decide), if_neg (show ¬ (2 : Int32) = 1 by decide), if_pos rfl]
theorem mt_3 {p d1 d3 d4 i : Nat} {Mc : sm_M} (h : Mc (p + 1) i = 3) : m_tail p d1 d3 d4 i Mc = (sm_dq [p, d1, p, d3, d4] [p, d1, p, d3, d4] (jM_perform_152 p d1 p d3 d4 (nI i) (Mc (p + 2) i) (Mc (p + 3) i) (Mc (p + 4) i) Mc)) := by
  unfold m_tail
  rw [h, if_neg (show ¬ (3 : Int32) = 0 by decide), if_neg (show ¬ (3 : Int32) = 1 by decide), if_neg (show ¬ (3 : Int32) = 2 by decide), if_pos rfl]
theorem dt_3 {i : Nat} {M N1 : sm_M} (h : N1 29 i = 3) : d_tail i M N1 = (jR_doIt_105 (nI i) (M 30 i) (M 31 i) (M 32 i) [] N1) := by
  unfold d_tail
  rw [h, if_neg (show ¬ (3 : Int32) = 0 by decide), if_neg (show ¬ (3 : Int32) = 1 by decide), if_neg (show ¬ (3 : Int32) = 2 by decide), if_pos rfl]
theorem mt_4 {p d1 d3 d4 i : Nat} {Mc : sm_M} (h : Mc (p + 1) i = 4) : m_tail p d1 d3 d4 i Mc = (sm_bi (jM_pair (Mc (p + 2) i) (Mc (p + 3) i) (Mc (p + 4) i) [p, d1, p, d3, d4] Mc) (fun x13 E13 M13 => sm_dq E13 [p, d1, p, d3, d4] (sm_bo x13 (some (x13, [p, d1, p, d3, d4], M13))))) := by
  unfold m_tail
  rw [h, if_neg (show ¬ (4 : Int32) = 0 by decide), if_neg (show ¬ (4 : Int32) = 1 by decide), if_neg (show ¬ (4 : Int32) = 2 by decide), if_neg (show ¬ (4 : Int32) = 3 by decide), if_pos rfl]
theorem dt_4 {i : Nat} {M N1 : sm_M} (h : N1 29 i = 4) : d_tail i M N1 = (sm_bi (jR_newPair (M 30 i) (M 31 i) (M 32 i) [] N1) (fun x9 E9 M9 => sm_dq E9 [] (sm_bo x9 (some (x9, [], M9))))) := by
  unfold d_tail
  rw [h, if_neg (show ¬ (4 : Int32) = 0 by decide), if_neg (show ¬ (4 : Int32) = 1 by decide), if_neg (show ¬ (4 : Int32) = 2 by decide), if_neg (show ¬ (4 : Int32) = 3 by decide), if_pos rfl]
theorem mt_5 {p d1 d3 d4 i : Nat} {Mc : sm_M} (h : Mc (p + 1) i = 5) : m_tail p d1 d3 d4 i Mc = (sm_bi (jM_load (Mc (p + 2) i) (Mc (p + 3) i) (Mc (p + 4) i) [p, d1, p, d3, d4] Mc) (fun x12 E12 M12 => sm_dq E12 [p, d1, p, d3, d4] (sm_bo x12 (some (x12, [p, d1, p, d3, d4], M12))))) := by
  unfold m_tail
  rw [h, if_neg (show ¬ (5 : Int32) = 0 by decide), if_neg (show ¬ (5 : Int32) = 1 by decide), if_neg (show ¬ (5 : Int32) = 2 by decide), if_neg (show ¬ (5 : Int32) = 3 by decide), if_neg (show ¬ (5 : Int32) = 4 by decide), if_pos rfl]
theorem dt_5 {i : Nat} {M N1 : sm_M} (h : N1 29 i = 5) : d_tail i M N1 = (sm_ck (M 31 i) 6 (sm_ck (M 31 i) 6 (if (N1 47 (Int32.toNatClampNeg (M 31 i))) = (3 : Int32) then (if (M 32 i) = (0 : Int32) then (sm_ck (N1 48 (Int32.toNatClampNeg (M 31 i))) 400 (jR_doIt_173 (M 32 i) (N1 48 (Int32.toNatClampNeg (M 31 i))) (M 30 i) (N1 49 (Int32.toNatClampNeg (N1 48 (Int32.toNatClampNeg (M 31 i))))) [] N1)) else (sm_ck (N1 48 (Int32.toNatClampNeg (M 31 i))) 400 (jR_doIt_173 (M 32 i) (N1 48 (Int32.toNatClampNeg (M 31 i))) (M 30 i) (N1 51 (Int32.toNatClampNeg (N1 48 (Int32.toNatClampNeg (M 31 i))))) [] N1))) else (sm_bo (0 : Int32) (some ((0 : Int32), [], N1)))))) := by
  unfold d_tail
  rw [h, if_neg (show ¬ (5 : Int32) = 0 by decide), if_neg (show ¬ (5 : Int32) = 1 by decide), if_neg (show ¬ (5 : Int32) = 2 by decide), if_neg (show ¬ (5 : Int32) = 3 by decide), if_neg (show ¬ (5 : Int32) = 4 by decide), if_pos rfl]
theorem mt_6 {p d1 d3 d4 i : Nat} {Mc : sm_M} (h : Mc (p + 1) i = 6) : m_tail p d1 d3 d4 i Mc = (sm_bi (jM_become (Mc (p + 2) i) (2 : Int32) (Mc (p + 3) i) [p, d1, p, d3, d4] Mc) (fun x11 E11 M11 => sm_dq E11 [p, d1, p, d3, d4] (sm_bo x11 (some (x11, [p, d1, p, d3, d4], M11))))) := by
  unfold m_tail
  rw [h, if_neg (show ¬ (6 : Int32) = 0 by decide), if_neg (show ¬ (6 : Int32) = 1 by decide), if_neg (show ¬ (6 : Int32) = 2 by decide), if_neg (show ¬ (6 : Int32) = 3 by decide), if_neg (show ¬ (6 : Int32) = 4 by decide), if_neg (show ¬ (6 : Int32) = 5 by decide), if_pos rfl]
theorem dt_6 {i : Nat} {M N1 : sm_M} (h : N1 29 i = 6) : d_tail i M N1 = (sm_bi (jR_put (M 30 i) (2 : Int32) (M 31 i) [] N1) (fun x8 E8 M8 => sm_dq E8 [] (sm_bo (1 : Int32) (some ((1 : Int32), [], M8))))) := by
  unfold d_tail
  rw [h, if_neg (show ¬ (6 : Int32) = 0 by decide), if_neg (show ¬ (6 : Int32) = 1 by decide), if_neg (show ¬ (6 : Int32) = 2 by decide), if_neg (show ¬ (6 : Int32) = 3 by decide), if_neg (show ¬ (6 : Int32) = 4 by decide), if_neg (show ¬ (6 : Int32) = 5 by decide), if_pos rfl]
theorem mt_7 {p d1 d3 d4 i : Nat} {Mc : sm_M} (h : Mc (p + 1) i = 7) : m_tail p d1 d3 d4 i Mc = (sm_ck (Mc (p + 3) i) 6 (if (Mc 34 (Int32.toNatClampNeg (Mc (p + 3) i))) = (3 : Int32) then (sm_ck (Mc (p + 3) i) 6 (sm_bi (jM_become (Mc (p + 2) i) (4 : Int32) (Mc 35 (Int32.toNatClampNeg (Mc (p + 3) i))) [p, d1, p, d3, d4] Mc) (fun x10 E10 M10 => sm_dq E10 [p, d1, p, d3, d4] (sm_dq [p, d1, p, d3, d4] [p, d1, p, d3, d4] (jM_perform_226 p d1 p d3 d4 x10 M10))))) else (sm_bi (jM_stop (2 : Int32) [p, d1, p, d3, d4] Mc) (fun x9 E9 M9 => sm_dq E9 [p, d1, p, d3, d4] (sm_dq [p, d1, p, d3, d4] [p, d1, p, d3, d4] (jM_perform_226 p d1 p d3 d4 x9 M9)))))) := by
  unfold m_tail
  rw [h, if_neg (show ¬ (7 : Int32) = 0 by decide), if_neg (show ¬ (7 : Int32) = 1 by decide), if_neg (show ¬ (7 : Int32) = 2 by decide), if_neg (show ¬ (7 : Int32) = 3 by decide), if_neg (show ¬ (7 : Int32) = 4 by decide), if_neg (show ¬ (7 : Int32) = 5 by decide), if_neg (show ¬ (7 : Int32) = 6 by decide), if_pos rfl]
theorem dt_7 {i : Nat} {M N1 : sm_M} (h : N1 29 i = 7) : d_tail i M N1 = (sm_ck (M 31 i) 6 (if (N1 47 (Int32.toNatClampNeg (M 31 i))) = (3 : Int32) then (sm_ck (M 31 i) 6 (sm_bi (jR_put (M 30 i) (4 : Int32) (N1 48 (Int32.toNatClampNeg (M 31 i))) [] N1) (fun x7 E7 M7 => sm_dq E7 [] (sm_bo (1 : Int32) (some ((1 : Int32), [], M7)))))) else (sm_bo (0 : Int32) (some ((0 : Int32), [], N1))))) := by
  unfold d_tail
  rw [h, if_neg (show ¬ (7 : Int32) = 0 by decide), if_neg (show ¬ (7 : Int32) = 1 by decide), if_neg (show ¬ (7 : Int32) = 2 by decide), if_neg (show ¬ (7 : Int32) = 3 by decide), if_neg (show ¬ (7 : Int32) = 4 by decide), if_neg (show ¬ (7 : Int32) = 5 by decide), if_neg (show ¬ (7 : Int32) = 6 by decide), if_pos rfl]
theorem mt_8 {p d1 d3 d4 i : Nat} {Mc : sm_M} (h : Mc (p + 1) i = 8) : m_tail p d1 d3 d4 i Mc = (sm_bi (jM_unwrap (Mc (p + 2) i) (Mc (p + 3) i) (Mc (p + 4) i) [p, d1, p, d3, d4] Mc) (fun x8 E8 M8 => sm_dq E8 [p, d1, p, d3, d4] (sm_bo x8 (some (x8, [p, d1, p, d3, d4], M8))))) := by
  unfold m_tail
  rw [h, if_neg (show ¬ (8 : Int32) = 0 by decide), if_neg (show ¬ (8 : Int32) = 1 by decide), if_neg (show ¬ (8 : Int32) = 2 by decide), if_neg (show ¬ (8 : Int32) = 3 by decide), if_neg (show ¬ (8 : Int32) = 4 by decide), if_neg (show ¬ (8 : Int32) = 5 by decide), if_neg (show ¬ (8 : Int32) = 6 by decide), if_neg (show ¬ (8 : Int32) = 7 by decide), if_pos rfl]
theorem dt_8 {i : Nat} {M N1 : sm_M} (h : N1 29 i = 8) : d_tail i M N1 = (sm_bi (jR_open (M 30 i) (M 31 i) (M 32 i) [] N1) (fun x6 E6 M6 => sm_dq E6 [] (sm_bo x6 (some (x6, [], M6))))) := by
  unfold d_tail
  rw [h, if_neg (show ¬ (8 : Int32) = 0 by decide), if_neg (show ¬ (8 : Int32) = 1 by decide), if_neg (show ¬ (8 : Int32) = 2 by decide), if_neg (show ¬ (8 : Int32) = 3 by decide), if_neg (show ¬ (8 : Int32) = 4 by decide), if_neg (show ¬ (8 : Int32) = 5 by decide), if_neg (show ¬ (8 : Int32) = 6 by decide), if_neg (show ¬ (8 : Int32) = 7 by decide), if_pos rfl]
theorem mt_9 {p d1 d3 d4 i : Nat} {Mc : sm_M} (h : Mc (p + 1) i = 9) : m_tail p d1 d3 d4 i Mc = (sm_bi (sm_ga [p] gC (jM_enter p d1 p d3 d4 (Mc (p + 2) i) Mc)) (fun x7 E7 M7 => sm_dq E7 [p, d1, p, d3, d4] (sm_bo x7 (some (x7, [p, d1, p, d3, d4], M7))))) := by
  unfold m_tail
  rw [h, if_neg (show ¬ (9 : Int32) = 0 by decide), if_neg (show ¬ (9 : Int32) = 1 by decide), if_neg (show ¬ (9 : Int32) = 2 by decide), if_neg (show ¬ (9 : Int32) = 3 by decide), if_neg (show ¬ (9 : Int32) = 4 by decide), if_neg (show ¬ (9 : Int32) = 5 by decide), if_neg (show ¬ (9 : Int32) = 6 by decide), if_neg (show ¬ (9 : Int32) = 7 by decide), if_neg (show ¬ (9 : Int32) = 8 by decide), if_pos rfl]
theorem dt_9 {i : Nat} {M N1 : sm_M} (h : N1 29 i = 9) : d_tail i M N1 = (sm_bi (jR_go (M 30 i) [] N1) (fun x5 E5 M5 => sm_dq E5 [] (sm_bo x5 (some (x5, [], M5))))) := by
  unfold d_tail
  rw [h, if_neg (show ¬ (9 : Int32) = 0 by decide), if_neg (show ¬ (9 : Int32) = 1 by decide), if_neg (show ¬ (9 : Int32) = 2 by decide), if_neg (show ¬ (9 : Int32) = 3 by decide), if_neg (show ¬ (9 : Int32) = 4 by decide), if_neg (show ¬ (9 : Int32) = 5 by decide), if_neg (show ¬ (9 : Int32) = 6 by decide), if_neg (show ¬ (9 : Int32) = 7 by decide), if_neg (show ¬ (9 : Int32) = 8 by decide), if_pos rfl]
theorem mt_10 {p d1 d3 d4 i : Nat} {Mc : sm_M} (h : Mc (p + 1) i = 10) : m_tail p d1 d3 d4 i Mc = (sm_bi (jM_branch p d1 p d3 d4 (Mc (p + 2) i) (Mc (p + 3) i) Mc) (fun x6 E6 M6 => sm_dq E6 [p, d1, p, d3, d4] (sm_bo x6 (some (x6, [p, d1, p, d3, d4], M6))))) := by
  unfold m_tail
  rw [h, if_neg (show ¬ (10 : Int32) = 0 by decide), if_neg (show ¬ (10 : Int32) = 1 by decide), if_neg (show ¬ (10 : Int32) = 2 by decide), if_neg (show ¬ (10 : Int32) = 3 by decide), if_neg (show ¬ (10 : Int32) = 4 by decide), if_neg (show ¬ (10 : Int32) = 5 by decide), if_neg (show ¬ (10 : Int32) = 6 by decide), if_neg (show ¬ (10 : Int32) = 7 by decide), if_neg (show ¬ (10 : Int32) = 8 by decide), if_neg (show ¬ (10 : Int32) = 9 by decide), if_pos rfl]
theorem dt_10 {i : Nat} {M N1 : sm_M} (h : N1 29 i = 10) : d_tail i M N1 = (sm_ck (M 30 i) 6 (if (N1 47 (Int32.toNatClampNeg (M 30 i))) = (1 : Int32) then (sm_ck (M 30 i) 6 (if (N1 48 (Int32.toNatClampNeg (M 30 i))) = (0 : Int32) then (jR_doIt_277 [] N1) else (sm_bi (jR_go (M 31 i) [] N1) (fun x4 E4 M4 => sm_dq E4 [] (if x4 = (0 : Int32) then (jR_doIt_281 [] M4) else (jR_doIt_277 [] M4)))))) else (jR_doIt_281 [] N1))) := by
  unfold d_tail
  rw [h, if_neg (show ¬ (10 : Int32) = 0 by decide), if_neg (show ¬ (10 : Int32) = 1 by decide), if_neg (show ¬ (10 : Int32) = 2 by decide), if_neg (show ¬ (10 : Int32) = 3 by decide), if_neg (show ¬ (10 : Int32) = 4 by decide), if_neg (show ¬ (10 : Int32) = 5 by decide), if_neg (show ¬ (10 : Int32) = 6 by decide), if_neg (show ¬ (10 : Int32) = 7 by decide), if_neg (show ¬ (10 : Int32) = 8 by decide), if_neg (show ¬ (10 : Int32) = 9 by decide), if_pos rfl]
theorem mt_11 {p d1 d3 d4 i : Nat} {Mc : sm_M} (h : Mc (p + 1) i = 11) : m_tail p d1 d3 d4 i Mc = (sm_ck (Mc (p + 2) i) 6 (if (Mc 34 (Int32.toNatClampNeg (Mc (p + 2) i))) = (2 : Int32) then (sm_ck (Mc (p + 2) i) 6 (sm_bi (sm_ga [p] gC (jM_enter p d1 p d3 d4 (Mc 35 (Int32.toNatClampNeg (Mc (p + 2) i))) Mc)) (fun x5 E5 M5 => sm_dq E5 [p, d1, p, d3, d4] (sm_dq [p, d1, p, d3, d4] [p, d1, p, d3, d4] (jM_perform_277 p d1 p d3 d4 x5 M5))))) else (sm_bi (jM_stop (2 : Int32) [p, d1, p, d3, d4] Mc) (fun x4 E4 M4 => sm_dq E4 [p, d1, p, d3, d4] (sm_dq [p, d1, p, d3, d4] [p, d1, p, d3, d4] (jM_perform_277 p d1 p d3 d4 x4 M4)))))) := by
  unfold m_tail
  rw [h, if_neg (show ¬ (11 : Int32) = 0 by decide), if_neg (show ¬ (11 : Int32) = 1 by decide), if_neg (show ¬ (11 : Int32) = 2 by decide), if_neg (show ¬ (11 : Int32) = 3 by decide), if_neg (show ¬ (11 : Int32) = 4 by decide), if_neg (show ¬ (11 : Int32) = 5 by decide), if_neg (show ¬ (11 : Int32) = 6 by decide), if_neg (show ¬ (11 : Int32) = 7 by decide), if_neg (show ¬ (11 : Int32) = 8 by decide), if_neg (show ¬ (11 : Int32) = 9 by decide), if_neg (show ¬ (11 : Int32) = 10 by decide), if_pos rfl]
theorem dt_11 {i : Nat} {M N1 : sm_M} (h : N1 29 i = 11) : d_tail i M N1 = (sm_ck (M 30 i) 6 (if (N1 47 (Int32.toNatClampNeg (M 30 i))) = (2 : Int32) then (sm_ck (M 30 i) 6 (sm_bi (jR_go (N1 48 (Int32.toNatClampNeg (M 30 i))) [] N1) (fun x3 E3 M3 => sm_dq E3 [] (if x3 = (0 : Int32) then (jR_doIt_310 [] M3) else (jR_doIt_311 (1 : Int32) [] M3))))) else (jR_doIt_310 [] N1))) := by
  unfold d_tail
  rw [h, if_neg (show ¬ (11 : Int32) = 0 by decide), if_neg (show ¬ (11 : Int32) = 1 by decide), if_neg (show ¬ (11 : Int32) = 2 by decide), if_neg (show ¬ (11 : Int32) = 3 by decide), if_neg (show ¬ (11 : Int32) = 4 by decide), if_neg (show ¬ (11 : Int32) = 5 by decide), if_neg (show ¬ (11 : Int32) = 6 by decide), if_neg (show ¬ (11 : Int32) = 7 by decide), if_neg (show ¬ (11 : Int32) = 8 by decide), if_neg (show ¬ (11 : Int32) = 9 by decide), if_neg (show ¬ (11 : Int32) = 10 by decide), if_pos rfl]
theorem mt_12 {p d1 d3 d4 i : Nat} {Mc : sm_M} (h : Mc (p + 1) i = 12) : m_tail p d1 d3 d4 i Mc = (sm_wr (sm_up Mc 33 10 (1 : Int32)) (fun N3 => (sm_bo (1 : Int32) (some ((1 : Int32), [p, d1, p, d3, d4], N3))))) := by
  unfold m_tail
  rw [h, if_neg (show ¬ (12 : Int32) = 0 by decide), if_neg (show ¬ (12 : Int32) = 1 by decide), if_neg (show ¬ (12 : Int32) = 2 by decide), if_neg (show ¬ (12 : Int32) = 3 by decide), if_neg (show ¬ (12 : Int32) = 4 by decide), if_neg (show ¬ (12 : Int32) = 5 by decide), if_neg (show ¬ (12 : Int32) = 6 by decide), if_neg (show ¬ (12 : Int32) = 7 by decide), if_neg (show ¬ (12 : Int32) = 8 by decide), if_neg (show ¬ (12 : Int32) = 9 by decide), if_neg (show ¬ (12 : Int32) = 10 by decide), if_neg (show ¬ (12 : Int32) = 11 by decide)]
theorem dt_12 {i : Nat} {M N1 : sm_M} (h : N1 29 i = 12) : d_tail i M N1 = (sm_wr (sm_up N1 1 66 (1 : Int32)) (fun N2 => (sm_bo (1 : Int32) (some ((1 : Int32), [], N2))))) := by
  unfold d_tail
  rw [h, if_neg (show ¬ (12 : Int32) = 0 by decide), if_neg (show ¬ (12 : Int32) = 1 by decide), if_neg (show ¬ (12 : Int32) = 2 by decide), if_neg (show ¬ (12 : Int32) = 3 by decide), if_neg (show ¬ (12 : Int32) = 4 by decide), if_neg (show ¬ (12 : Int32) = 5 by decide), if_neg (show ¬ (12 : Int32) = 6 by decide), if_neg (show ¬ (12 : Int32) = 7 by decide), if_neg (show ¬ (12 : Int32) = 8 by decide), if_neg (show ¬ (12 : Int32) = 9 by decide), if_neg (show ¬ (12 : Int32) = 10 by decide), if_neg (show ¬ (12 : Int32) = 11 by decide)]
def rlV (nP : Nat) (Mc Mm : sm_M) : Prop := nP ≤ 400 ∧ Mc 33 6 = nI nP ∧ Mm 1 69 = nI nP ∧ (∀ r, 1 ≤ r → r ≤ 5 → Mc 34 r = Mm 47 r ∧ Mc 35 r = Mm 48 r ∧ okv nP (Mm 47 r) (Mm 48 r)) ∧ (∀ j, j < nP → Mc 36 j = Mm 49 j ∧ Mc 37 j = Mm 50 j ∧ Mc 38 j = Mm 51 j ∧ Mc 39 j = Mm 52 j ∧ okv nP (Mm 49 j) (Mm 50 j) ∧ okv nP (Mm 51 j) (Mm 52 j))
def mfC (Mc' Mc : sm_M) : Prop := ∀ q, q < 33 ∨ 39 < q → Mc' q = Mc q
def mfM (Mm' Mm : sm_M) : Prop := (∀ q, q ≠ 1 → q < 47 ∨ 52 < q → Mm' q = Mm q) ∧ ∀ j, j < 66 ∨ 69 < j → Mm' 1 j = Mm 1 j
/-- a machine that has begun and is inside its block -/
def m_ctx (p nB nP b k s l i : Nat) (Mc Mm : sm_M) : Prop := rlV nP Mc Mm ∧ Mc 33 10 = 0 ∧ Mm 1 66 = 0 ∧ (b < nB ∧ nB ≤ 40 ∧ k < l ∧ i = s + k ∧ s + l ≤ 300) ∧ (Mm 33 b = nI s ∧ Mm 34 b = nI l ∧ Mc 33 8 = nI b ∧ Mc 33 9 = nI k ∧ Mm 1 67 = nI i ∧ Mm 1 68 = nI (s + l)) ∧ Mc p 11 = nI nB ∧ Mm 1 38 = nI nB ∧ ∀ b', b' < nB → ∃ s l : Nat, s + l ≤ 300 ∧ Mm 33 b' = nI s ∧ Mm 34 b' = nI l
def m_out (nB p d1 d3 d4 : Nat) (jc jr : Option sm_S) (w : Int32) (Mc Mm : sm_M) : Prop := (∃ Mc' M1, jc = some (1, [p, d1, p, d3, d4], Mc') ∧ jr = some (1, [], M1) ∧ rlM nB Mc' M1 ∧ mfC Mc' Mc ∧ mfM M1 Mm) ∨ (jc = some (0, [p, d1, p, d3, d4], sm_up Mc 33 10 2) ∧ jr = some (0, [], sm_up Mm 1 67 w)) ∨ (jc = some (0, [p, d1, p, d3, d4], sm_up Mc 33 10 3) ∧ jr = some (0, [], sm_up (sm_up Mm 1 67 w) 1 66 3))
theorem okv.mono {n n' : Nat} {k v : Int32} (h : okv n k v) (hn : n ≤ n') : okv n' k v := ⟨fun q => by obtain ⟨j, h1, h2⟩ := h.1 q; exact ⟨j, by omega, h2⟩, h.2⟩
theorem rlV.o {nP : Nat} {Mc Mm Mc' Mm' : sm_M} (h : rlV nP Mc Mm) (h6 : Mc' 33 6 = Mc 33 6) (hc : ∀ q, 34 ≤ q → q ≤ 39 → Mc' q = Mc q) (h69 : Mm' 1 69 = Mm 1 69) (hm : ∀ q, 47 ≤ q → q ≤ 52 → Mm' q = Mm q) : rlV nP Mc' Mm' := by
  unfold rlV at h ⊢
  rw [h6, h69, hc 34 (by decide) (by decide), hc 35 (by decide) (by decide), hc 36 (by decide) (by decide), hc 37 (by decide) (by decide), hc 38 (by decide) (by decide), hc 39 (by decide) (by decide), hm 47 (by decide) (by decide), hm 48 (by decide) (by decide), hm 49 (by decide) (by decide), hm 50 (by decide) (by decide), hm 51 (by decide) (by decide), hm 52 (by decide) (by decide)]
  exact h
def ptC (M : sm_M) (r : Nat) (k v : Int32) : sm_M := sm_up (sm_up M 34 r k) 35 r v
def ptM (M : sm_M) (r : Nat) (k v : Int32) : sm_M := sm_up (sm_up M 47 r k) 48 r v
section
variable {nB nP p d1 d3 d4 b k s l i r : Nat} {Mc Mm N : sm_M} {kd v w : Int32}
theorem ptC_34 : ptC Mc r kd v 34 = upd (Mc 34) r kd := by unfold ptC; rw [up_ne (by decide), sm_up_same]
theorem ptC_35 : ptC Mc r kd v 35 = upd (Mc 35) r v := by unfold ptC; rw [sm_up_same, up_ne (by decide)]
theorem ptC_o {q : Nat} (h1 : q ≠ 34) (h2 : q ≠ 35) : ptC Mc r kd v q = Mc q := by unfold ptC; rw [up_ne h2, up_ne h1]
theorem ptM_47 : ptM Mm r kd v 47 = upd (Mm 47) r kd := by unfold ptM; rw [up_ne (by decide), sm_up_same]
theorem ptM_48 : ptM Mm r kd v 48 = upd (Mm 48) r v := by unfold ptM; rw [sm_up_same, up_ne (by decide)]
theorem ptM_o {q : Nat} (h1 : q ≠ 47) (h2 : q ≠ 48) : ptM Mm r kd v q = Mm q := by unfold ptM; rw [up_ne h2, up_ne h1]
theorem rlV_put (h : rlV nP Mc Mm) (hv : okv nP kd v) : rlV nP (ptC Mc r kd v) (ptM Mm r kd v) := by
  obtain ⟨a1, a2, a3, a4, a5⟩ := h
  refine ⟨a1, ?_, ?_, fun j h1 h2 => ?_, ?_⟩
  · rw [ptC_o (by decide) (by decide)]; exact a2
  · rw [ptM_o (by decide) (by decide)]; exact a3
  · rw [ptC_34, ptC_35, ptM_47, ptM_48]
    by_cases hj : j = r
    · subst hj
      rw [upd_at, upd_at, upd_at, upd_at]
      exact ⟨rfl, rfl, hv⟩
    · rw [upd_ne hj, upd_ne hj, upd_ne hj, upd_ne hj]
      exact a4 j h1 h2
  · rw [ptC_o (by decide) (by decide), ptC_o (by decide) (by decide), ptC_o (by decide) (by decide), ptC_o (by decide) (by decide), ptM_o (by decide) (by decide), ptM_o (by decide) (by decide), ptM_o (by decide) (by decide), ptM_o (by decide) (by decide)]
    exact a5
theorem m_become (hr : r ≤ 5) {D : sm_D} : jM_become (nI r) kd v D Mc = some (1, D, sm_up (ptC Mc r kd v) 33 9 (Mc 33 9 + 1)) := by
  have hck : ∀ {ρ : Type} {q : Option ρ}, sm_ck (nI r) 6 q = q := ck_nI (by omega) (by decide)
  have hcl : (nI r).toNatClampNeg = r := nI_clamp (by omega)
  simp only [jM_become, sm_wr, bo_1]
  rw [hck, hck, hcl, up_ne (show (33 : Nat) ≠ 35 by decide), up_ne (show (33 : Nat) ≠ 34 by decide)]
  rfl
theorem r_put (hr : r ≤ 5) {D : sm_D} : jR_put (nI r) kd v D Mm = some (0, D, ptM Mm r kd v) := by
  have hck : ∀ {ρ : Type} {q : Option ρ}, sm_ck (nI r) 6 q = q := ck_nI (by omega) (by decide)
  have hcl : (nI r).toNatClampNeg = r := nI_clamp (by omega)
  simp only [jR_put, sm_wr]
  rw [hck, hck, hcl]
  rfl
theorem m_out.cw {jc jr : Option sm_S} (h : m_out nB p d1 d3 d4 jc jr w Mc Mm) : m_out nB p d1 d3 d4 (sm_bi jc (fun x E M => sm_dq E [p, d1, p, d3, d4] (sm_bo x (some (x, [p, d1, p, d3, d4], M))))) jr w Mc Mm := by
  rcases h with ⟨Mc', M1, rfl, h2, h3⟩ | ⟨rfl, h2⟩ | ⟨rfl, h2⟩
  · exact Or.inl ⟨Mc', M1, by rw [bi_some, dq_self, bo_1], h2, h3⟩
  · exact Or.inr (Or.inl ⟨by rw [bi_some, dq_self, bo_0], h2⟩)
  · exact Or.inr (Or.inr ⟨by rw [bi_some, dq_self, bo_0], h2⟩)
theorem m_out.rv {jc jr : Option sm_S} (h : m_out nB p d1 d3 d4 jc jr w Mc Mm) : m_out nB p d1 d3 d4 jc (sm_bi jr (fun x E M => sm_dq E [] (sm_bo x (some (x, [], M))))) w Mc Mm := by
  rcases h with ⟨Mc', M1, h1, rfl, h3⟩ | ⟨h1, rfl⟩ | ⟨h1, rfl⟩
  · exact Or.inl ⟨Mc', M1, h1, by rw [bi_some, dq_self, bo_1], h3⟩
  · exact Or.inr (Or.inl ⟨h1, by rw [bi_some, dq_self, bo_0]⟩)
  · exact Or.inr (Or.inr ⟨h1, by rw [bi_some, dq_self, bo_0]⟩)
theorem m_stop {D : sm_D} : jM_stop v D Mc = some (0, D, sm_up Mc 33 10 v) := by simp only [jM_stop, sm_wr, bo_0]
/-- the next instruction of the same block -/
theorem m_next {nP' : Nat} {Mc' M1 : sm_M} (h : m_ctx p nB nP b k s l i Mc Mm) (hV : rlV nP' Mc' M1) (e8 : Mc' 33 8 = nI b) (e9 : Mc' 33 9 = nI (k + 1)) (e10 : Mc' 33 10 = 0) (f66 : M1 1 66 = 0) (f67 : M1 1 67 = nI (i + 1)) (f68 : M1 1 68 = nI (s + l)) (f33 : M1 33 = Mm 33) (f34 : M1 34 = Mm 34) : rlM nB Mc' M1 := by
  obtain ⟨-, -, -, ⟨c1, c2, c3, c4, c5⟩, ⟨x1, x2, x3, x4, x5, x6⟩, -⟩ := h
  refine ⟨by rw [f66, e10], nP', hV.1, hV.2.1, hV.2.2.1, hV.2.2.2.1, hV.2.2.2.2, fun _ => Or.inr ⟨b, k + 1, s, l, c1, c3, c5, ?_, ?_, e8, e9, ?_, f68⟩⟩
  · rw [f33]; exact x1
  · rw [f34]; exact x2
  · rw [f67, c4]; rfl
theorem o_put (h : m_ctx p nB nP b k s l i Mc Mm) (hr : r ≤ 5) (hv : okv nP kd v) : m_out nB p d1 d3 d4 (jM_become (nI r) kd v [p, d1, p, d3, d4] Mc) (sm_bi (jR_put (nI r) kd v [] (sm_up Mm 1 67 (nI (i + 1)))) (fun x E M => sm_dq E [] (sm_bo (1 : Int32) (some ((1 : Int32), [], M))))) (nI (i + 1)) Mc Mm := by
  refine Or.inl ⟨sm_up (ptC Mc r kd v) 33 9 (Mc 33 9 + 1), ptM (sm_up Mm 1 67 (nI (i + 1))) r kd v, m_become hr, by rw [r_put hr, bi_some, dq_self, bo_1], ?_, ?_, ?_⟩
  · have h0 := h
    obtain ⟨hV, z1, z2, -, ⟨x1, x2, x3, x4, x5, x6⟩, -⟩ := h
    refine m_next h0 ((rlV_put (hV.o (Mc' := Mc) (Mm' := sm_up Mm 1 67 (nI (i + 1))) rfl (fun _ _ _ => rfl) (up_as (by decide)) (fun q h1 h2 => up_ne (by omega))) hv).o (up_as (by decide)) (fun q h1 h2 => up_ne (by omega)) rfl (fun _ _ _ => rfl)) ?_ ?_ ?_ ?_ ?_ ?_ ?_ ?_
    · rw [up_as (by decide), ptC_o (by decide) (by decide)]; exact x3
    · rw [up_at, x4, nI_succ]
    · rw [up_as (by decide), ptC_o (by decide) (by decide)]; exact z1
    · rw [ptM_o (by decide) (by decide), up_as (by decide)]; exact z2
    · rw [ptM_o (by decide) (by decide), up_at]
    · rw [ptM_o (by decide) (by decide), up_as (by decide)]; exact x6
    · rw [ptM_o (by decide) (by decide), up_ne (by decide)]
    · rw [ptM_o (by decide) (by decide), up_ne (by decide)]
  · intro q hq
    rw [up_ne (by omega), ptC_o (by omega) (by omega)]
  · refine ⟨fun q h1 hq => ?_, fun j hj => ?_⟩
    · rw [ptM_o (by omega) (by omega), up_ne h1]
    · rw [ptM_o (by decide) (by decide), up_as (by omega)]
theorem o_stuck : m_out nB p d1 d3 d4 (jM_stop 2 [p, d1, p, d3, d4] Mc) (some (0, [], sm_up Mm 1 67 w)) w Mc Mm := Or.inr (Or.inl ⟨m_stop, rfl⟩)
/-- a jump to a block -/
theorem o_enter (hp : (p = 40 ∧ d1 = 50) ∨ (p = 50 ∧ d1 = 40)) (h : m_ctx p nB nP b k s l i Mc Mm) {x : Int32} (hx : blk40 x) : m_out nB p d1 d3 d4 (jM_enter p d1 p d3 d4 x Mc) (jR_go x [] (sm_up Mm 1 67 w)) w Mc Mm := by
  obtain ⟨hV, z1, z2, ⟨c1, c2, c3, c4, c5⟩, ⟨x1, x2, x3, x4, x5, x6⟩, y1, y2, y3⟩ := h
  have e38 : sm_up Mm 1 67 w 1 38 = nI nB := by rw [up_as (by decide)]; exact y2
  obtain ⟨j, hj, rfl⟩ := hx
  unfold jM_enter jR_go
  rcases c_hasB (D := [p, d1, p, d3, d4]) c2 y1 (nI j) with ⟨i', hi', e, hb⟩ | ⟨hno, hb⟩
  · have ej := nI_inj (by omega) (by omega) e
    subst ej
    obtain ⟨s', l', q1, q2, q3⟩ := y3 j hi'
    have hck : ∀ {ρ : Type} {q : Option ρ}, sm_ck (nI j) 41 q = q := ck_nI (by omega) (by decide)
    have hcl : (nI j).toNatClampNeg = j := nI_clamp (by omega)
    have e33 : sm_up Mm 1 67 w 33 = Mm 33 := up_ne (by decide)
    refine Or.inl ⟨sm_up (sm_up Mc 33 8 (nI j)) 33 9 0, sm_up (sm_up (sm_up Mm 1 67 w) 1 67 (nI s')) 1 68 (nI (s' + l')), ?_, ?_, ?_, ?_, ?_⟩
    · rw [ga_in (in_gC hp), hb, bi_some, dq_self, if_neg (by decide)]
      simp only [sm_wr, bo_1]
    · rw [e38, if_pos (nI_lt hi' (by omega)), hck, hcl, e33, q2]
      simp only [sm_wr, bo_1]
      rw [hck, hck, up_ne (show (33 : Nat) ≠ 1 by decide), up_ne (show (34 : Nat) ≠ 1 by decide), up_ne (show (33 : Nat) ≠ 1 by decide), up_ne (show (34 : Nat) ≠ 1 by decide), q2, q3, nI_add]
    · have hV' : rlV nP (sm_up (sm_up Mc 33 8 (nI j)) 33 9 0) (sm_up (sm_up (sm_up Mm 1 67 w) 1 67 (nI s')) 1 68 (nI (s' + l'))) := hV.o (by rw [up_as (by decide), up_as (by decide)]) (fun q h1 h2 => by rw [up_ne (by omega), up_ne (by omega)]) (by rw [up_as (by decide), up_as (by decide), up_as (by decide)]) (fun q h1 h2 => by rw [up_ne (by omega), up_ne (by omega), up_ne (by omega)])
      refine ⟨?_, nP, hV'.1, hV'.2.1, hV'.2.2.1, hV'.2.2.2.1, hV'.2.2.2.2, fun _ => Or.inr ⟨j, 0, s', l', hi', by omega, q1, ?_, ?_, ?_, ?_, ?_, ?_⟩⟩
      · rw [up_as (by decide), up_as (by decide), up_as (by decide), up_as (by decide), up_as (by decide), z1, z2]
      · rw [up_ne (by decide), up_ne (by decide), up_ne (by decide)]; exact q2
      · rw [up_ne (by decide), up_ne (by decide), up_ne (by decide)]; exact q3
      · rw [up_as (by decide), up_at]
      · rw [up_at]; rfl
      · rw [up_as (by decide), up_at]; rfl
      · rw [up_at]
    · intro q hq
      rw [up_ne (by omega), up_ne (by omega)]
    · refine ⟨fun q h1 hq => ?_, fun j hj => ?_⟩
      · rw [up_ne h1, up_ne h1, up_ne h1]
      · rw [up_as (by omega), up_as (by omega), up_as (by omega)]
  · refine Or.inr (Or.inl ⟨?_, ?_⟩)
    · rw [ga_in (in_gC hp), hb, bi_some, dq_self, if_pos rfl, m_stop, bi_some, dq_self, bo_0]
    · rw [e38, if_neg (fun q => hno ⟨nI_pos (by omega), q⟩), bo_0]
end
