/-! the methods as functions: by program -/
noncomputable def jR_thrown (D : sm_D) (M : sm_M) : Option sm_S :=
  (some ((M 1 0), D, M))
noncomputable def jR_refuse (l1 : Int32) (D : sm_D) (M : sm_M) : Option sm_S :=
  (sm_wr (sm_up M 1 0 l1) (fun N1 => (some ((0 : Int32), D, N1))))
noncomputable def jR_sizeOf_14 (s0 : Int32) (D : sm_D) (M : sm_M) : Option sm_S :=
  (some (s0, D, M))
noncomputable def jR_sizeOf (l1 : Int32) (D : sm_D) (M : sm_M) : Option sm_S :=
  (if l1 < (0 : Int32) then (jR_sizeOf_14 (0 : Int32) D M) else (sm_ck l1 3000 (jR_sizeOf_14 (M 6 (Int32.toNatClampNeg l1)) D M)))
noncomputable def jR_find_65 (l1 l2 l3 l4 l5 : Int32) (D : sm_D) (M : sm_M) : Option ((Int32 × Int32 × Int32 × Int32 × Int32 × sm_M) ⊕ sm_S) :=
  (sm_dq D D (some (.inl (l1, l2, l3, l4, (l5 + (1 : Int32)), M))))
noncomputable def jR_find_71 (l1 l2 l3 l4 : Int32) (D : sm_D) (M : sm_M) : Option sm_S :=
  (sm_ck (M 1 1) 3000 (sm_wr (sm_up M 2 (Int32.toNatClampNeg (M 1 1)) l1) (fun N1 => (sm_ck (N1 1 1) 3000 (sm_wr (sm_up N1 3 (Int32.toNatClampNeg (N1 1 1)) l2) (fun N2 => (sm_ck (N2 1 1) 3000 (sm_wr (sm_up N2 4 (Int32.toNatClampNeg (N2 1 1)) l3) (fun N3 => (sm_ck (N3 1 1) 3000 (sm_wr (sm_up N3 5 (Int32.toNatClampNeg (N3 1 1)) l4) (fun N4 => (sm_bi (jR_sizeOf l2 D N4) (fun x5 E5 M5 => sm_dq E5 D (sm_bi (jR_sizeOf l3 D M5) (fun x6 E6 M6 => sm_dq E6 D (sm_bi (jR_sizeOf l4 D M6) (fun x7 E7 M7 => sm_dq E7 D (sm_ck (N4 1 1) 3000 (sm_wr (sm_up M7 6 (Int32.toNatClampNeg (N4 1 1)) ((((1 : Int32) + x5) + x6) + x7)) (fun N8 => (sm_wr (sm_up N8 1 1 ((N8 1 1) + (1 : Int32))) (fun N9 => (some (((N9 1 1) - (1 : Int32)), D, N9)))))))))))))))))))))))))
noncomputable def jR_find_3_c (l1 l2 l3 l4 l5 : Int32) (D : sm_D) (M : sm_M) : Option ((Int32 × Int32 × Int32 × Int32 × Int32 × sm_M) ⊕ sm_S) :=
  (if l5 < (M 1 1) then (if l1 = (5 : Int32) then (sm_inr (jR_find_71 l1 l2 l3 l4 D M)) else (sm_ck l5 3000 (if (M 2 (Int32.toNatClampNeg l5)) = l1 then (sm_ck l5 3000 (if (M 3 (Int32.toNatClampNeg l5)) = l2 then (sm_ck l5 3000 (if (M 4 (Int32.toNatClampNeg l5)) = l3 then (sm_ck l5 3000 (if (M 5 (Int32.toNatClampNeg l5)) = l4 then (some (.inr (l5, D, M))) else (sm_dq D D (jR_find_65 l1 l2 l3 l4 l5 D M)))) else (sm_dq D D (jR_find_65 l1 l2 l3 l4 l5 D M)))) else (sm_dq D D (jR_find_65 l1 l2 l3 l4 l5 D M)))) else (sm_dq D D (jR_find_65 l1 l2 l3 l4 l5 D M))))) else (sm_inr (jR_find_71 l1 l2 l3 l4 D M)))
noncomputable def jR_find_3_b (D : sm_D) (s : Int32 × Int32 × Int32 × Int32 × Int32 × sm_M) : Option ((Int32 × Int32 × Int32 × Int32 × Int32 × sm_M) ⊕ sm_S) := jR_find_3_c s.1 s.2.1 s.2.2.1 s.2.2.2.1 s.2.2.2.2.1 D s.2.2.2.2.2
noncomputable def jR_find_3 (l1 l2 l3 l4 l5 : Int32) (D : sm_D) (M : sm_M) : Option sm_S := sm_lp (jR_find_3_b D) (l1, l2, l3, l4, l5, M)
noncomputable def jR_find (l1 l2 l3 l4 : Int32) (D : sm_D) (M : sm_M) : Option sm_S :=
  (jR_find_3 l1 l2 l3 l4 (0 : Int32) D M)
noncomputable def jR_isMade_17 (s0 : Int32) (D : sm_D) (M : sm_M) : Option sm_S :=
  (sm_bo s0 (some (s0, D, M)))
noncomputable def jR_isMade_16 (D : sm_D) (M : sm_M) : Option sm_S :=
  (jR_isMade_17 (0 : Int32) D M)
noncomputable def jR_isMade (l1 : Int32) (D : sm_D) (M : sm_M) : Option sm_S :=
  (if l1 < (0 : Int32) then (jR_isMade_16 D M) else (if l1 < (M 1 7) then (jR_isMade_17 (1 : Int32) D M) else (jR_isMade_16 D M)))
noncomputable def jR_numberOf_14 (s0 : Int32) (D : sm_D) (M : sm_M) : Option sm_S :=
  (some (s0, D, M))
noncomputable def jR_numberOf (l1 : Int32) (D : sm_D) (M : sm_M) : Option sm_S :=
  (if l1 < (0 : Int32) then (jR_numberOf_14 (-1 : Int32) D M) else (sm_ck l1 30 (jR_numberOf_14 (M 7 (Int32.toNatClampNeg l1)) D M)))
noncomputable def jR_type_15 (D : sm_D) (M : sm_M) : Option sm_S :=
  (some ((-1 : Int32), D, M))
noncomputable def jR_type_195 (l1 l2 l5 l6 l8 : Int32) (D : sm_D) (M : sm_M) : Option ((Int32 × Int32 × Int32 × Int32 × Int32 × sm_M) ⊕ sm_S) :=
  (sm_dq D D (some (.inl (l1, l2, l5, l6, (l8 + (1 : Int32)), M))))
noncomputable def jR_type_248 (D : sm_D) (M : sm_M) : Option sm_S :=
  (some ((-1 : Int32), D, M))
noncomputable def jR_type_137_c (l1 l2 l5 l6 l8 : Int32) (D : sm_D) (M : sm_M) : Option ((Int32 × Int32 × Int32 × Int32 × Int32 × sm_M) ⊕ sm_S) :=
  (if l8 < (M 1 7) then (sm_ck l8 30 (if (M 8 (Int32.toNatClampNeg l8)) = l1 then (sm_ck l8 30 (if (M 9 (Int32.toNatClampNeg l8)) = l2 then (sm_ck l8 30 (if (M 10 (Int32.toNatClampNeg l8)) = l5 then (sm_ck l8 30 (if (M 11 (Int32.toNatClampNeg l8)) = l6 then (some (.inr (l8, D, M))) else (sm_dq D D (jR_type_195 l1 l2 l5 l6 l8 D M)))) else (sm_dq D D (jR_type_195 l1 l2 l5 l6 l8 D M)))) else (sm_dq D D (jR_type_195 l1 l2 l5 l6 l8 D M)))) else (sm_dq D D (jR_type_195 l1 l2 l5 l6 l8 D M)))) else (sm_bi (jR_numberOf l2 D M) (fun x1 E1 M1 => sm_dq E1 D (sm_bi (jR_sizeOf x1 D M1) (fun x2 E2 M2 => sm_dq E2 D (sm_bi (jR_numberOf l5 D M2) (fun x3 E3 M3 => sm_dq E3 D (sm_bi (jR_sizeOf x3 D M3) (fun x4 E4 M4 => sm_dq E4 D (sm_bi (jR_numberOf l6 D M4) (fun x5 E5 M5 => sm_dq E5 D (sm_bi (jR_sizeOf x5 D M5) (fun x6 E6 M6 => sm_dq E6 D (if (30 : Int32) < ((((1 : Int32) + x2) + x4) + x6) then (sm_inr (jR_type_248 D M6)) else (if (M6 1 7) = (30 : Int32) then (sm_inr (jR_type_248 D M6)) else (sm_ck (M6 1 7) 30 (sm_wr (sm_up M6 8 (Int32.toNatClampNeg (M6 1 7)) l1) (fun N7 => (sm_ck (N7 1 7) 30 (sm_wr (sm_up N7 9 (Int32.toNatClampNeg (N7 1 7)) l2) (fun N8 => (sm_ck (N8 1 7) 30 (sm_wr (sm_up N8 10 (Int32.toNatClampNeg (N8 1 7)) l5) (fun N9 => (sm_ck (N9 1 7) 30 (sm_wr (sm_up N9 11 (Int32.toNatClampNeg (N9 1 7)) l6) (fun N10 => (sm_bi (jR_numberOf l2 D N10) (fun x11 E11 M11 => sm_dq E11 D (sm_bi (jR_numberOf l5 D M11) (fun x12 E12 M12 => sm_dq E12 D (sm_bi (jR_numberOf l6 D M12) (fun x13 E13 M13 => sm_dq E13 D (sm_bi (jR_find l1 x11 x12 x13 D M13) (fun x14 E14 M14 => sm_dq E14 D (sm_ck (N10 1 7) 30 (sm_wr (sm_up M14 7 (Int32.toNatClampNeg (N10 1 7)) x14) (fun N15 => (sm_wr (sm_up N15 1 7 ((N15 1 7) + (1 : Int32))) (fun N16 => (some (.inr (((N16 1 7) - (1 : Int32)), D, N16)))))))))))))))))))))))))))))))))))))))))))
noncomputable def jR_type_137_b (D : sm_D) (s : Int32 × Int32 × Int32 × Int32 × Int32 × sm_M) : Option ((Int32 × Int32 × Int32 × Int32 × Int32 × sm_M) ⊕ sm_S) := jR_type_137_c s.1 s.2.1 s.2.2.1 s.2.2.2.1 s.2.2.2.2.1 D s.2.2.2.2.2
noncomputable def jR_type_137 (l1 l2 l5 l6 l8 : Int32) (D : sm_D) (M : sm_M) : Option sm_S := sm_lp (jR_type_137_b D) (l1, l2, l5, l6, l8, M)
noncomputable def jR_type_125 (l1 l2 l5 l6 s0 : Int32) (D : sm_D) (M : sm_M) : Option sm_S :=
  (if s0 = (0 : Int32) then (some ((-1 : Int32), D, M)) else (jR_type_137 l1 l2 l5 l6 (1 : Int32) D M))
noncomputable def jR_type_90 (l1 l2 l5 l6 : Int32) (D : sm_D) (M : sm_M) : Option sm_S :=
  (jR_type_125 l1 l2 l5 l6 (1 : Int32) D M)
noncomputable def jR_type_94 (l1 l2 l5 l6 : Int32) (D : sm_D) (M : sm_M) : Option sm_S :=
  (jR_type_125 l1 l2 l5 l6 (0 : Int32) D M)
noncomputable def jR_type_75 (l1 l2 l5 l6 : Int32) (D : sm_D) (M : sm_M) : Option sm_S :=
  (if l6 = (-1 : Int32) then (jR_type_90 l1 l2 l5 l6 D M) else (sm_bi (jR_isMade l6 D M) (fun x1 E1 M1 => sm_dq E1 D (if x1 = (0 : Int32) then (jR_type_94 l1 l2 l5 l6 D M1) else (jR_type_90 l1 l2 l5 l6 D M1)))))
noncomputable def jR_type_60 (l1 l2 l5 l6 : Int32) (D : sm_D) (M : sm_M) : Option sm_S :=
  (if l5 = (-1 : Int32) then (jR_type_75 l1 l2 l5 l6 D M) else (sm_bi (jR_isMade l5 D M) (fun x1 E1 M1 => sm_dq E1 D (if x1 = (0 : Int32) then (jR_type_94 l1 l2 l5 l6 D M1) else (jR_type_75 l1 l2 l5 l6 D M1)))))
noncomputable def jR_type_120 (l1 l2 l5 l6 : Int32) (D : sm_D) (M : sm_M) : Option sm_S :=
  (jR_type_125 l1 l2 l5 l6 (1 : Int32) D M)
noncomputable def jR_type_124 (l1 l2 l5 l6 : Int32) (D : sm_D) (M : sm_M) : Option sm_S :=
  (jR_type_125 l1 l2 l5 l6 (0 : Int32) D M)
noncomputable def jR_type_40 (l1 l2 l5 s0 : Int32) (D : sm_D) (M : sm_M) : Option sm_S :=
  (if l1 = (4 : Int32) then (if l2 = (-1 : Int32) then (jR_type_60 l1 l2 l5 s0 D M) else (sm_bi (jR_isMade l2 D M) (fun x3 E3 M3 => sm_dq E3 D (if x3 = (0 : Int32) then (jR_type_94 l1 l2 l5 s0 D M3) else (jR_type_60 l1 l2 l5 s0 D M3))))) else (sm_bi (jR_isMade l2 D M) (fun x1 E1 M1 => sm_dq E1 D (if x1 = (0 : Int32) then (jR_type_124 l1 l2 l5 s0 D M1) else (if l1 = (3 : Int32) then (jR_type_120 l1 l2 l5 s0 D M1) else (sm_bi (jR_isMade l5 D M1) (fun x2 E2 M2 => sm_dq E2 D (if x2 = (0 : Int32) then (jR_type_124 l1 l2 l5 s0 D M2) else (jR_type_120 l1 l2 l5 s0 D M2)))))))))
noncomputable def jR_type_27 (l1 l2 l4 s0 : Int32) (D : sm_D) (M : sm_M) : Option sm_S :=
  (if l1 = (4 : Int32) then (jR_type_40 l1 l2 s0 l4 D M) else (jR_type_40 l1 l2 s0 (-1 : Int32) D M))
noncomputable def jR_type (l1 l2 l3 l4 : Int32) (D : sm_D) (M : sm_M) : Option sm_S :=
  (sm_wr (sm_up M 1 0 (0 : Int32)) (fun N1 => (if l1 < (1 : Int32) then (jR_type_15 D N1) else (if (4 : Int32) < l1 then (jR_type_15 D N1) else (if l1 = (3 : Int32) then (jR_type_27 l1 l2 l4 (-1 : Int32) D N1) else (jR_type_27 l1 l2 l4 l3 D N1))))))
noncomputable def jR_size_28 (s0 : Int32) (D : sm_D) (M : sm_M) : Option sm_S :=
  (some (s0, D, M))
noncomputable def jR_size (l1 : Int32) (D : sm_D) (M : sm_M) : Option sm_S :=
  (sm_wr (sm_up M 1 0 (0 : Int32)) (fun N1 => (sm_bi (jR_isMade l1 D N1) (fun x2 E2 M2 => sm_dq E2 D (if x2 = (0 : Int32) then (jR_size_28 (-1 : Int32) D M2) else (sm_ck l1 30 (sm_ck (M2 7 (Int32.toNatClampNeg l1)) 3000 (jR_size_28 (M2 6 (Int32.toNatClampNeg (M2 7 (Int32.toNatClampNeg l1)))) D M2))))))))
noncomputable def jR_partsOf_35 (s0 : Int32) (D : sm_D) (M : sm_M) : Option sm_S :=
  (some (s0, D, M))
noncomputable def jR_partsOf_30 (D : sm_D) (M : sm_M) : Option sm_S :=
  (jR_partsOf_35 (1 : Int32) D M)
noncomputable def jR_partsOf (l0 : Int32) (D : sm_D) (M : sm_M) : Option sm_S :=
  (if l0 < (2 : Int32) then (jR_partsOf_35 (0 : Int32) D M) else (if l0 = (5 : Int32) then (jR_partsOf_35 (3 : Int32) D M) else (if l0 = (6 : Int32) then (jR_partsOf_30 D M) else (if (8 : Int32) < l0 then (jR_partsOf_30 D M) else (jR_partsOf_35 (2 : Int32) D M)))))
noncomputable def jR_isExpression_17 (s0 : Int32) (D : sm_D) (M : sm_M) : Option sm_S :=
  (sm_bo s0 (some (s0, D, M)))
noncomputable def jR_isExpression_16 (D : sm_D) (M : sm_M) : Option sm_S :=
  (jR_isExpression_17 (0 : Int32) D M)
noncomputable def jR_isExpression (l1 : Int32) (D : sm_D) (M : sm_M) : Option sm_S :=
  (if l1 < (0 : Int32) then (jR_isExpression_16 D M) else (if l1 < (M 1 13) then (jR_isExpression_17 (1 : Int32) D M) else (jR_isExpression_16 D M)))
noncomputable def jR_make_24 (D : sm_D) (M : sm_M) : Option sm_S :=
  (some ((-1 : Int32), D, M))
noncomputable def jR_make_76 (D : sm_D) (M : sm_M) : Option sm_S :=
  (some ((-1 : Int32), D, M))
noncomputable def jR_make_121 (D : sm_D) (M : sm_M) : Option sm_S :=
  (some ((-1 : Int32), D, M))
noncomputable def jR_make_202 (l1 l2 l3 l4 l5 s0 : Int32) (D : sm_D) (M : sm_M) : Option sm_S :=
  (if (8 : Int32) < (s0 + (1 : Int32)) then (some ((-1 : Int32), D, M)) else (sm_ck (M 1 13) 40 (sm_wr (sm_up M 12 (Int32.toNatClampNeg (M 1 13)) l1) (fun N1 => (sm_ck (M 1 13) 40 (sm_wr (sm_up N1 13 (Int32.toNatClampNeg (M 1 13)) l2) (fun N2 => (sm_ck (M 1 13) 40 (sm_wr (sm_up N2 14 (Int32.toNatClampNeg (M 1 13)) l3) (fun N3 => (sm_ck (M 1 13) 40 (sm_wr (sm_up N3 15 (Int32.toNatClampNeg (M 1 13)) l4) (fun N4 => (sm_ck (M 1 13) 40 (sm_wr (sm_up N4 16 (Int32.toNatClampNeg (M 1 13)) l5) (fun N5 => (sm_ck (M 1 13) 40 (sm_wr (sm_up N5 17 (Int32.toNatClampNeg (M 1 13)) (s0 + (1 : Int32))) (fun N6 => (sm_wr (sm_up N6 1 13 ((N6 1 13) + (1 : Int32))) (fun N7 => (some ((M 1 13), D, N7)))))))))))))))))))))))
noncomputable def jR_make_200 (l1 l2 l3 l4 l5 l7 : Int32) (D : sm_D) (M : sm_M) : Option sm_S :=
  (jR_make_202 l1 l2 l3 l4 l5 l7 D M)
noncomputable def jR_make_170 (l1 l2 l3 l4 l5 l6 s0 : Int32) (D : sm_D) (M : sm_M) : Option sm_S :=
  (if (2 : Int32) < l6 then (sm_ck l5 40 (if s0 < (M 17 (Int32.toNatClampNeg l5)) then (sm_ck l5 40 (jR_make_202 l1 l2 l3 l4 l5 (M 17 (Int32.toNatClampNeg l5)) D M)) else (jR_make_200 l1 l2 l3 l4 l5 s0 D M))) else (jR_make_200 l1 l2 l3 l4 l5 s0 D M))
noncomputable def jR_make_168 (l1 l2 l3 l4 l5 l6 l7 : Int32) (D : sm_D) (M : sm_M) : Option sm_S :=
  (jR_make_170 l1 l2 l3 l4 l5 l6 l7 D M)
noncomputable def jR_make_138 (l1 l2 l3 l4 l5 l6 s0 : Int32) (D : sm_D) (M : sm_M) : Option sm_S :=
  (if (1 : Int32) < l6 then (sm_ck l4 40 (if s0 < (M 17 (Int32.toNatClampNeg l4)) then (sm_ck l4 40 (jR_make_170 l1 l2 l3 l4 l5 l6 (M 17 (Int32.toNatClampNeg l4)) D M)) else (jR_make_168 l1 l2 l3 l4 l5 l6 s0 D M))) else (jR_make_168 l1 l2 l3 l4 l5 l6 s0 D M))
noncomputable def jR_make_123 (l1 l2 l3 l4 l5 l6 : Int32) (D : sm_D) (M : sm_M) : Option sm_S :=
  (if (0 : Int32) < l6 then (sm_ck l3 40 (jR_make_138 l1 l2 l3 l4 l5 l6 (M 17 (Int32.toNatClampNeg l3)) D M)) else (jR_make_138 l1 l2 l3 l4 l5 l6 (0 : Int32) D M))
noncomputable def jR_make_106 (l1 l2 l3 l4 l5 l6 : Int32) (D : sm_D) (M : sm_M) : Option sm_S :=
  (if (2 : Int32) < l6 then (sm_bi (jR_isExpression l5 D M) (fun x1 E1 M1 => sm_dq E1 D (if x1 = (0 : Int32) then (jR_make_121 D M1) else (jR_make_123 l1 l2 l3 l4 l5 l6 D M1)))) else (jR_make_123 l1 l2 l3 l4 l5 l6 D M))
noncomputable def jR_make_91 (l1 l2 l3 l4 l5 l6 : Int32) (D : sm_D) (M : sm_M) : Option sm_S :=
  (if (1 : Int32) < l6 then (sm_bi (jR_isExpression l4 D M) (fun x1 E1 M1 => sm_dq E1 D (if x1 = (0 : Int32) then (jR_make_121 D M1) else (jR_make_106 l1 l2 l3 l4 l5 l6 D M1)))) else (jR_make_106 l1 l2 l3 l4 l5 l6 D M))
noncomputable def jR_make_78 (l1 l2 l3 l4 l5 l6 : Int32) (D : sm_D) (M : sm_M) : Option sm_S :=
  (if (0 : Int32) < l6 then (sm_bi (jR_isExpression l3 D M) (fun x1 E1 M1 => sm_dq E1 D (if x1 = (0 : Int32) then (jR_make_121 D M1) else (jR_make_91 l1 l2 l3 l4 l5 l6 D M1)))) else (jR_make_91 l1 l2 l3 l4 l5 l6 D M))
noncomputable def jR_make_47 (l1 l2 l3 l4 l5 l6 : Int32) (D : sm_D) (M : sm_M) : Option sm_S :=
  (if l1 = (6 : Int32) then (sm_bi (jR_isMade l2 D M) (fun x1 E1 M1 => sm_dq E1 D (if x1 = (0 : Int32) then (jR_make_76 D M1) else (sm_ck l2 30 (sm_ck (M1 7 (Int32.toNatClampNeg l2)) 3000 (if (M1 2 (Int32.toNatClampNeg (M1 7 (Int32.toNatClampNeg l2)))) = (2 : Int32) then (jR_make_78 l1 l2 l3 l4 l5 l6 D M1) else (jR_make_76 D M1))))))) else (jR_make_78 l1 l2 l3 l4 l5 l6 D M))
noncomputable def jR_make (l1 l2 l3 l4 l5 : Int32) (D : sm_D) (M : sm_M) : Option sm_S :=
  (sm_wr (sm_up M 1 0 (0 : Int32)) (fun N1 => (if l1 < (0 : Int32) then (jR_make_24 D N1) else (if (10 : Int32) < l1 then (jR_make_24 D N1) else (if (N1 1 13) = (40 : Int32) then (jR_make_24 D N1) else (sm_bi (jR_partsOf l1 D N1) (fun x2 E2 M2 => sm_dq E2 D (if l1 = (1 : Int32) then (if l2 < (0 : Int32) then (jR_make_76 D M2) else (if (20 : Int32) < l2 then (jR_make_76 D M2) else (jR_make_47 l1 l2 l3 l4 l5 x2 D M2))) else (jR_make_47 l1 l2 l3 l4 l5 x2 D M2)))))))))
noncomputable def jR_begin (l1 : Int32) (D : sm_D) (M : sm_M) : Option sm_S :=
  (sm_ck (M 1 20) 64 (sm_wr (sm_up M 18 (Int32.toNatClampNeg (M 1 20)) l1) (fun N1 => (sm_ck (N1 1 20) 64 (sm_wr (sm_up N1 19 (Int32.toNatClampNeg (N1 1 20)) (0 : Int32)) (fun N2 => (sm_wr (sm_up N2 1 20 ((N2 1 20) + (1 : Int32))) (fun N3 => (some ((0 : Int32), D, N3))))))))))
noncomputable def jR_typeNext_110 (D : sm_D) (M : sm_M) : Option sm_S :=
  (sm_bo (0 : Int32) (some ((0 : Int32), D, M)))
noncomputable def jR_typeNext_246 (s1 : Int32) (D : sm_D) (M : sm_M) : Option sm_S :=
  (sm_bi (jR_begin s1 D M) (fun x1 E1 M1 => sm_dq E1 D (sm_bo (1 : Int32) (some ((1 : Int32), D, M1)))))
noncomputable def jR_typeNext_212 (l2 l3 : Int32) (D : sm_D) (M : sm_M) : Option sm_S :=
  (if l3 = (0 : Int32) then (sm_ck l2 40 (jR_typeNext_246 (M 14 (Int32.toNatClampNeg l2)) D M)) else (if l3 = (1 : Int32) then (sm_ck l2 40 (jR_typeNext_246 (M 15 (Int32.toNatClampNeg l2)) D M)) else (sm_ck l2 40 (jR_typeNext_246 (M 16 (Int32.toNatClampNeg l2)) D M))))
noncomputable def jR_typeNext_574 (l6 : Int32) (D : sm_D) (M : sm_M) : Option sm_S :=
  (sm_bo l6 (some (l6, D, M)))
noncomputable def jR_typeNext_372 (l6 s1 : Int32) (D : sm_D) (M : sm_M) : Option sm_S :=
  (sm_wr (sm_up M 1 22 s1) (fun N1 => (jR_typeNext_574 l6 D N1)))
noncomputable def jR_typeNext_342 (l2 s0 : Int32) (D : sm_D) (M : sm_M) : Option sm_S :=
  (if s0 = (0 : Int32) then (jR_typeNext_372 s0 (0 : Int32) D M) else (sm_ck l2 40 (sm_ck (((M 1 21) - (1 : Int32)) - (M 13 (Int32.toNatClampNeg l2))) 32 (jR_typeNext_372 s0 (M 23 (Int32.toNatClampNeg (((M 1 21) - (1 : Int32)) - (M 13 (Int32.toNatClampNeg l2))))) D M))))
noncomputable def jR_typeNext_390 (s0 : Int32) (D : sm_D) (M : sm_M) : Option sm_S :=
  (jR_typeNext_574 s0 D M)
noncomputable def jR_typeNext_378 (D : sm_D) (M : sm_M) : Option sm_S :=
  (if (M 1 22) = (0 : Int32) then (jR_typeNext_390 (1 : Int32) D M) else (jR_typeNext_390 (0 : Int32) D M))
noncomputable def jR_typeNext_413 (s0 : Int32) (D : sm_D) (M : sm_M) : Option sm_S :=
  (jR_typeNext_574 s0 D M)
noncomputable def jR_typeNext_456 (l2 s0 : Int32) (D : sm_D) (M : sm_M) : Option sm_S :=
  (sm_ck l2 40 (sm_ck (M 13 (Int32.toNatClampNeg l2)) 30 (sm_wr (sm_up M 1 22 (M 7 (Int32.toNatClampNeg (M 13 (Int32.toNatClampNeg l2))))) (fun N1 => (jR_typeNext_574 s0 D N1)))))
noncomputable def jR_typeNext_499 (l1 s0 : Int32) (D : sm_D) (M : sm_M) : Option sm_S :=
  (sm_ck l1 64 (sm_ck (M 20 (Int32.toNatClampNeg l1)) 3000 (sm_wr (sm_up M 1 22 (M 4 (Int32.toNatClampNeg (M 20 (Int32.toNatClampNeg l1))))) (fun N1 => (jR_typeNext_574 s0 D N1)))))
noncomputable def jR_typeNext_571 (l6 s1 : Int32) (D : sm_D) (M : sm_M) : Option sm_S :=
  (sm_wr (sm_up M 1 22 s1) (fun N1 => (jR_typeNext_574 l6 D N1)))
noncomputable def jR_typeNext_142 (l1 l2 l3 l4 l5 : Int32) (D : sm_D) (M : sm_M) : Option sm_S :=
  (if l3 < l5 then (if l4 = (6 : Int32) then (sm_ck l2 40 (sm_ck (M 13 (Int32.toNatClampNeg l2)) 30 (sm_ck (M 1 21) 32 (sm_wr (sm_up M 23 (Int32.toNatClampNeg (M 1 21)) (M 7 (Int32.toNatClampNeg (M 13 (Int32.toNatClampNeg l2))))) (fun N6 => (sm_ck l2 40 (sm_ck (N6 13 (Int32.toNatClampNeg l2)) 30 (sm_ck (N6 7 (Int32.toNatClampNeg (N6 13 (Int32.toNatClampNeg l2)))) 3000 (sm_ck ((N6 1 21) + (1 : Int32)) 32 (sm_wr (sm_up N6 23 (Int32.toNatClampNeg ((N6 1 21) + (1 : Int32))) (N6 3 (Int32.toNatClampNeg (N6 7 (Int32.toNatClampNeg (N6 13 (Int32.toNatClampNeg l2))))))) (fun N7 => (sm_wr (sm_up N7 1 21 ((N7 1 21) + (2 : Int32))) (fun N8 => (jR_typeNext_212 l2 l3 D N8)))))))))))))) else (jR_typeNext_212 l2 l3 D M)) else (sm_wr (sm_up M 1 20 ((M 1 20) - (1 : Int32))) (fun N1 => (if l4 = (0 : Int32) then (sm_wr (sm_up N1 1 22 (0 : Int32)) (fun N5 => (jR_typeNext_574 (1 : Int32) D N5))) else (if l4 = (1 : Int32) then (sm_ck l2 40 (if (N1 13 (Int32.toNatClampNeg l2)) < (N1 1 21) then (jR_typeNext_342 l2 (1 : Int32) D N1) else (jR_typeNext_342 l2 (0 : Int32) D N1))) else (if l4 = (2 : Int32) then (jR_typeNext_378 D N1) else (if l4 = (3 : Int32) then (jR_typeNext_378 D N1) else (if l4 = (4 : Int32) then (jR_typeNext_378 D N1) else (if l4 = (5 : Int32) then (sm_ck l1 64 (if (N1 1 22) = (N1 21 (Int32.toNatClampNeg l1)) then (jR_typeNext_413 (1 : Int32) D N1) else (jR_typeNext_413 (0 : Int32) D N1))) else (if l4 = (6 : Int32) then (sm_wr (sm_up N1 1 21 ((N1 1 21) - (2 : Int32))) (fun N4 => (sm_ck l2 40 (sm_ck (N4 13 (Int32.toNatClampNeg l2)) 30 (sm_ck (N4 7 (Int32.toNatClampNeg (N4 13 (Int32.toNatClampNeg l2)))) 3000 (if (N4 1 22) = (N4 4 (Int32.toNatClampNeg (N4 7 (Int32.toNatClampNeg (N4 13 (Int32.toNatClampNeg l2)))))) then (jR_typeNext_456 l2 (1 : Int32) D N4) else (jR_typeNext_456 l2 (0 : Int32) D N4))))))) else (if l4 = (7 : Int32) then (sm_ck l1 64 (sm_ck (N1 20 (Int32.toNatClampNeg l1)) 3000 (if (N1 1 22) = (N1 3 (Int32.toNatClampNeg (N1 20 (Int32.toNatClampNeg l1)))) then (jR_typeNext_499 l1 (1 : Int32) D N1) else (jR_typeNext_499 l1 (0 : Int32) D N1)))) else (if l4 = (8 : Int32) then (sm_ck l1 64 (sm_bi (jR_find (1 : Int32) (N1 20 (Int32.toNatClampNeg l1)) (N1 1 22) (-1 : Int32) D N1) (fun x2 E2 M2 => sm_dq E2 D (sm_wr (sm_up M2 1 22 x2) (fun N3 => (jR_typeNext_574 (1 : Int32) D N3)))))) else (if l4 = (9 : Int32) then (sm_ck (N1 1 22) 3000 (jR_typeNext_571 (1 : Int32) (N1 3 (Int32.toNatClampNeg (N1 1 22))) D N1)) else (sm_ck (N1 1 22) 3000 (jR_typeNext_571 (1 : Int32) (N1 4 (Int32.toNatClampNeg (N1 1 22))) D N1)))))))))))))))
noncomputable def jR_typeNext_127 (l1 l2 l3 l4 l5 : Int32) (D : sm_D) (M : sm_M) : Option sm_S :=
  (if l3 = (2 : Int32) then (sm_ck l1 64 (sm_wr (sm_up M 21 (Int32.toNatClampNeg l1) (M 1 22)) (fun N1 => (jR_typeNext_142 l1 l2 l3 l4 l5 D N1)))) else (jR_typeNext_142 l1 l2 l3 l4 l5 D M))
noncomputable def jR_typeNext_112 (l1 l2 l3 l4 l5 : Int32) (D : sm_D) (M : sm_M) : Option sm_S :=
  (if l3 = (1 : Int32) then (sm_ck l1 64 (sm_wr (sm_up M 20 (Int32.toNatClampNeg l1) (M 1 22)) (fun N1 => (jR_typeNext_127 l1 l2 l3 l4 l5 D N1)))) else (jR_typeNext_127 l1 l2 l3 l4 l5 D M))
noncomputable def jR_typeNext_90 (l1 l2 l3 l4 l5 : Int32) (D : sm_D) (M : sm_M) : Option sm_S :=
  (if (8 : Int32) < l4 then (sm_ck (M 1 22) 3000 (if (M 2 (Int32.toNatClampNeg (M 1 22))) = (1 : Int32) then (jR_typeNext_112 l1 l2 l3 l4 l5 D M) else (jR_typeNext_110 D M))) else (jR_typeNext_112 l1 l2 l3 l4 l5 D M))
noncomputable def jR_typeNext_70 (l1 l2 l3 l4 l5 : Int32) (D : sm_D) (M : sm_M) : Option sm_S :=
  (if l4 = (7 : Int32) then (sm_ck (M 1 22) 3000 (if (M 2 (Int32.toNatClampNeg (M 1 22))) = (2 : Int32) then (jR_typeNext_90 l1 l2 l3 l4 l5 D M) else (jR_typeNext_110 D M))) else (jR_typeNext_90 l1 l2 l3 l4 l5 D M))
noncomputable def jR_typeNext (D : sm_D) (M : sm_M) : Option sm_S :=
  (sm_ck ((M 1 20) - (1 : Int32)) 64 (sm_ck ((M 1 20) - (1 : Int32)) 64 (sm_ck (M 18 (Int32.toNatClampNeg ((M 1 20) - (1 : Int32)))) 40 (sm_bi (jR_partsOf (M 12 (Int32.toNatClampNeg (M 18 (Int32.toNatClampNeg ((M 1 20) - (1 : Int32)))))) D M) (fun x1 E1 M1 => sm_dq E1 D (sm_ck ((M 1 20) - (1 : Int32)) 64 (sm_ck ((M 1 20) - (1 : Int32)) 64 (sm_wr (sm_up M1 19 (Int32.toNatClampNeg ((M 1 20) - (1 : Int32))) ((M1 19 (Int32.toNatClampNeg ((M 1 20) - (1 : Int32)))) + (1 : Int32))) (fun N2 => (if (M 19 (Int32.toNatClampNeg ((M 1 20) - (1 : Int32)))) = (1 : Int32) then (if (M 12 (Int32.toNatClampNeg (M 18 (Int32.toNatClampNeg ((M 1 20) - (1 : Int32)))))) < (2 : Int32) then (jR_typeNext_70 ((M 1 20) - (1 : Int32)) (M 18 (Int32.toNatClampNeg ((M 1 20) - (1 : Int32)))) (M 19 (Int32.toNatClampNeg ((M 1 20) - (1 : Int32)))) (M 12 (Int32.toNatClampNeg (M 18 (Int32.toNatClampNeg ((M 1 20) - (1 : Int32)))))) x1 D N2) else (if (5 : Int32) < (M 12 (Int32.toNatClampNeg (M 18 (Int32.toNatClampNeg ((M 1 20) - (1 : Int32)))))) then (jR_typeNext_70 ((M 1 20) - (1 : Int32)) (M 18 (Int32.toNatClampNeg ((M 1 20) - (1 : Int32)))) (M 19 (Int32.toNatClampNeg ((M 1 20) - (1 : Int32)))) (M 12 (Int32.toNatClampNeg (M 18 (Int32.toNatClampNeg ((M 1 20) - (1 : Int32)))))) x1 D N2) else (if (N2 1 22) = (0 : Int32) then (jR_typeNext_70 ((M 1 20) - (1 : Int32)) (M 18 (Int32.toNatClampNeg ((M 1 20) - (1 : Int32)))) (M 19 (Int32.toNatClampNeg ((M 1 20) - (1 : Int32)))) (M 12 (Int32.toNatClampNeg (M 18 (Int32.toNatClampNeg ((M 1 20) - (1 : Int32)))))) x1 D N2) else (jR_typeNext_110 D N2)))) else (jR_typeNext_112 ((M 1 20) - (1 : Int32)) (M 18 (Int32.toNatClampNeg ((M 1 20) - (1 : Int32)))) (M 19 (Int32.toNatClampNeg ((M 1 20) - (1 : Int32)))) (M 12 (Int32.toNatClampNeg (M 18 (Int32.toNatClampNeg ((M 1 20) - (1 : Int32)))))) x1 D N2)))))))))))
noncomputable def jR_typeOf_48 (s0 : Int32) (D : sm_D) (M : sm_M) : Option sm_S :=
  (some (s0, D, M))
noncomputable def jR_typeOf_36 (l2 : Int32) (D : sm_D) (M : sm_M) : Option sm_S :=
  (if l2 = (0 : Int32) then (jR_typeOf_48 (-1 : Int32) D M) else (jR_typeOf_48 (M 1 22) D M))
noncomputable def jR_typeOf_17_c (l2 : Int32) (D : sm_D) (M : sm_M) : Option ((Int32 × sm_M) ⊕ sm_S) :=
  (if l2 = (0 : Int32) then (sm_inr (jR_typeOf_36 l2 D M)) else (if (0 : Int32) < (M 1 20) then (sm_bi (jR_typeNext D M) (fun x1 E1 M1 => sm_dq E1 D (sm_dq D D (some (.inl (x1, M1)))))) else (sm_inr (jR_typeOf_36 l2 D M))))
noncomputable def jR_typeOf_17_b (D : sm_D) (s : Int32 × sm_M) : Option ((Int32 × sm_M) ⊕ sm_S) := jR_typeOf_17_c s.1 D s.2
noncomputable def jR_typeOf_17 (l2 : Int32) (D : sm_D) (M : sm_M) : Option sm_S := sm_lp (jR_typeOf_17_b D) (l2, M)
noncomputable def jR_typeOf (l1 : Int32) (D : sm_D) (M : sm_M) : Option sm_S :=
  (sm_wr (sm_up M 1 20 (0 : Int32)) (fun N1 => (sm_wr (sm_up N1 1 21 (0 : Int32)) (fun N2 => (sm_bi (jR_begin l1 D N2) (fun x3 E3 M3 => sm_dq E3 D (jR_typeOf_17 (1 : Int32) D M3)))))))
noncomputable def jR_is_21 (D : sm_D) (M : sm_M) : Option sm_S :=
  (sm_bo (0 : Int32) (some ((0 : Int32), D, M)))
noncomputable def jR_is_47 (l3 s0 : Int32) (D : sm_D) (M : sm_M) : Option sm_S :=
  (sm_wr (sm_up M 1 1 l3) (fun N1 => (sm_bo s0 (some (s0, D, N1)))))
noncomputable def jR_is (l1 l2 : Int32) (D : sm_D) (M : sm_M) : Option sm_S :=
  (sm_wr (sm_up M 1 0 (0 : Int32)) (fun N1 => (sm_bi (jR_isExpression l1 D N1) (fun x2 E2 M2 => sm_dq E2 D (if x2 = (0 : Int32) then (jR_is_21 D M2) else (sm_bi (jR_isMade l2 D M2) (fun x3 E3 M3 => sm_dq E3 D (if x3 = (0 : Int32) then (jR_is_21 D M3) else (sm_bi (jR_typeOf l1 D M3) (fun x4 E4 M4 => sm_dq E4 D (sm_ck l2 30 (if x4 = (M4 7 (Int32.toNatClampNeg l2)) then (jR_is_47 (M3 1 1) (1 : Int32) D M4) else (jR_is_47 (M3 1 1) (0 : Int32) D M4)))))))))))))
noncomputable def jR_isProgram_18 (l2 s0 : Int32) (D : sm_D) (M : sm_M) : Option sm_S :=
  (sm_wr (sm_up M 1 1 l2) (fun N1 => (sm_bo s0 (some (s0, D, N1)))))
noncomputable def jR_isProgram (l1 : Int32) (D : sm_D) (M : sm_M) : Option sm_S :=
  (sm_bi (jR_typeOf l1 D M) (fun x1 E1 M1 => sm_dq E1 D (if x1 = (0 : Int32) then (jR_isProgram_18 (M 1 1) (1 : Int32) D M1) else (jR_isProgram_18 (M 1 1) (0 : Int32) D M1))))
noncomputable def jR_newValue (l1 l2 l3 : Int32) (D : sm_D) (M : sm_M) : Option sm_S :=
  (sm_ck (M 1 30) 600 (sm_wr (sm_up M 24 (Int32.toNatClampNeg (M 1 30)) l1) (fun N1 => (sm_ck (N1 1 30) 600 (sm_wr (sm_up N1 25 (Int32.toNatClampNeg (N1 1 30)) l2) (fun N2 => (sm_ck (N2 1 30) 600 (sm_wr (sm_up N2 26 (Int32.toNatClampNeg (N2 1 30)) l3) (fun N3 => (sm_wr (sm_up N3 1 30 ((N3 1 30) + (1 : Int32))) (fun N4 => (some (((N4 1 30) - (1 : Int32)), D, N4)))))))))))))
noncomputable def jR_bind (l1 l2 : Int32) (D : sm_D) (M : sm_M) : Option sm_S :=
  (sm_ck (M 1 31) 1200 (sm_wr (sm_up M 27 (Int32.toNatClampNeg (M 1 31)) l1) (fun N1 => (sm_ck (N1 1 31) 1200 (sm_wr (sm_up N1 28 (Int32.toNatClampNeg (N1 1 31)) l2) (fun N2 => (sm_wr (sm_up N2 1 31 ((N2 1 31) + (1 : Int32))) (fun N3 => (some (((N3 1 31) - (1 : Int32)), D, N3))))))))))
noncomputable def jR_step_19 (D : sm_D) (M : sm_M) : Option sm_S :=
  (sm_bo (0 : Int32) (some ((0 : Int32), D, M)))
noncomputable def jR_step (l1 l2 : Int32) (D : sm_D) (M : sm_M) : Option sm_S :=
  (if (M 1 29) = (500 : Int32) then (jR_step_19 D M) else (if (M 1 20) = (60 : Int32) then (jR_step_19 D M) else (sm_wr (sm_up M 1 29 ((M 1 29) + (1 : Int32))) (fun N1 => (sm_bi (jR_begin l1 D N1) (fun x2 E2 M2 => sm_dq E2 D (sm_ck ((M2 1 20) - (1 : Int32)) 64 (sm_wr (sm_up M2 22 (Int32.toNatClampNeg ((M2 1 20) - (1 : Int32))) l2) (fun N3 => (sm_bo (1 : Int32) (some ((1 : Int32), D, N3))))))))))))
noncomputable def jR_result_25 (s0 : Int32) (D : sm_D) (M : sm_M) : Option sm_S :=
  (some (s0, D, M))
noncomputable def jR_result (l0 l1 l2 : Int32) (D : sm_D) (M : sm_M) : Option sm_S :=
  (if l0 = (2 : Int32) then (jR_result_25 (l1 + l2) D M) else (if l0 = (3 : Int32) then (jR_result_25 (l1 - l2) D M) else (jR_result_25 (l1 * l2) D M)))
noncomputable def jR_boundTo_5_c (l1 l3 l4 : Int32) (D : sm_D) (M : sm_M) : Option ((Int32 × Int32 × Int32 × sm_M) ⊕ sm_S) :=
  (sm_ck l1 40 (if l4 < (M 13 (Int32.toNatClampNeg l1)) then (sm_ck l3 1200 (sm_dq D D (some (.inl (l1, (M 28 (Int32.toNatClampNeg l3)), (l4 + (1 : Int32)), M))))) else (sm_ck l3 1200 (some (.inr ((M 27 (Int32.toNatClampNeg l3)), D, M))))))
noncomputable def jR_boundTo_5_b (D : sm_D) (s : Int32 × Int32 × Int32 × sm_M) : Option ((Int32 × Int32 × Int32 × sm_M) ⊕ sm_S) := jR_boundTo_5_c s.1 s.2.1 s.2.2.1 D s.2.2.2
noncomputable def jR_boundTo_5 (l1 l3 l4 : Int32) (D : sm_D) (M : sm_M) : Option sm_S := sm_lp (jR_boundTo_5_b D) (l1, l3, l4, M)
noncomputable def jR_boundTo (l1 l2 : Int32) (D : sm_D) (M : sm_M) : Option sm_S :=
  (jR_boundTo_5 l1 l2 (0 : Int32) D M)
noncomputable def jR_partNext_14 (D : sm_D) (M : sm_M) : Option sm_S :=
  (some ((-1 : Int32), D, M))
noncomputable def jR_partNext_61 (s0 : Int32) (D : sm_D) (M : sm_M) : Option sm_S :=
  (some (s0, D, M))
noncomputable def jR_partNext_81 (s0 : Int32) (D : sm_D) (M : sm_M) : Option sm_S :=
  (some (s0, D, M))
noncomputable def jR_partNext_62 (l2 l3 : Int32) (D : sm_D) (M : sm_M) : Option sm_S :=
  (if l3 = (0 : Int32) then (sm_ck l2 40 (jR_partNext_81 (M 14 (Int32.toNatClampNeg l2)) D M)) else (sm_ck l2 40 (jR_partNext_81 (M 15 (Int32.toNatClampNeg l2)) D M)))
noncomputable def jR_partNext (l1 l2 l3 : Int32) (D : sm_D) (M : sm_M) : Option sm_S :=
  (if l1 = (6 : Int32) then (jR_partNext_14 D M) else (sm_bi (jR_partsOf l1 D M) (fun x1 E1 M1 => sm_dq E1 D (if l3 < x1 then (if l1 = (5 : Int32) then (if (0 : Int32) < l3 then (if l3 = (1 : Int32) then (sm_ck (M1 1 22) 600 (if (M1 25 (Int32.toNatClampNeg (M1 1 22))) = (0 : Int32) then (sm_ck l2 40 (jR_partNext_61 (M1 15 (Int32.toNatClampNeg l2)) D M1)) else (sm_ck l2 40 (jR_partNext_61 (M1 16 (Int32.toNatClampNeg l2)) D M1)))) else (jR_partNext_61 (-1 : Int32) D M1)) else (jR_partNext_62 l2 l3 D M1)) else (jR_partNext_62 l2 l3 D M1)) else (jR_partNext_14 D M1)))))
noncomputable def jR_evaluateNext_364 (D : sm_D) (M : sm_M) : Option sm_S :=
  (sm_bo (1 : Int32) (some ((1 : Int32), D, M)))
noncomputable def jR_evaluateNext_257 (l1 l4 : Int32) (D : sm_D) (M : sm_M) : Option sm_S :=
  (sm_ck l1 64 (sm_ck (M 20 (Int32.toNatClampNeg l1)) 600 (sm_ck (M 1 22) 600 (sm_bi (jR_result l4 (M 25 (Int32.toNatClampNeg (M 20 (Int32.toNatClampNeg l1)))) (M 25 (Int32.toNatClampNeg (M 1 22))) D M) (fun x1 E1 M1 => sm_dq E1 D (sm_bi (jR_newValue (0 : Int32) x1 (0 : Int32) D M1) (fun x2 E2 M2 => sm_dq E2 D (sm_wr (sm_up M2 1 22 x2) (fun N3 => (jR_evaluateNext_364 D N3))))))))))
noncomputable def jR_evaluateNext_152 (l1 l2 l4 l5 : Int32) (D : sm_D) (M : sm_M) : Option sm_S :=
  (sm_wr (sm_up M 1 20 ((M 1 20) - (1 : Int32))) (fun N1 => (if l4 = (0 : Int32) then (sm_ck l2 40 (sm_bi (jR_newValue (0 : Int32) (N1 13 (Int32.toNatClampNeg l2)) (0 : Int32) D N1) (fun x10 E10 M10 => sm_dq E10 D (sm_wr (sm_up M10 1 22 x10) (fun N11 => (jR_evaluateNext_364 D N11)))))) else (if l4 = (1 : Int32) then (sm_bi (jR_boundTo l2 l5 D N1) (fun x8 E8 M8 => sm_dq E8 D (sm_wr (sm_up M8 1 22 x8) (fun N9 => (jR_evaluateNext_364 D N9))))) else (if l4 = (2 : Int32) then (jR_evaluateNext_257 l1 l4 D N1) else (if l4 = (3 : Int32) then (jR_evaluateNext_257 l1 l4 D N1) else (if l4 = (4 : Int32) then (jR_evaluateNext_257 l1 l4 D N1) else (if l4 = (5 : Int32) then (jR_evaluateNext_364 D N1) else (if l4 = (6 : Int32) then (sm_bi (jR_newValue (2 : Int32) l2 l5 D N1) (fun x6 E6 M6 => sm_dq E6 D (sm_wr (sm_up M6 1 22 x6) (fun N7 => (jR_evaluateNext_364 D N7))))) else (if l4 = (7 : Int32) then (jR_evaluateNext_364 D N1) else (if l4 = (8 : Int32) then (sm_ck l1 64 (sm_bi (jR_newValue (1 : Int32) (N1 20 (Int32.toNatClampNeg l1)) (N1 1 22) D N1) (fun x4 E4 M4 => sm_dq E4 D (sm_wr (sm_up M4 1 22 x4) (fun N5 => (jR_evaluateNext_364 D N5)))))) else (if l4 = (9 : Int32) then (sm_ck (N1 1 22) 600 (sm_wr (sm_up N1 1 22 (N1 25 (Int32.toNatClampNeg (N1 1 22)))) (fun N3 => (jR_evaluateNext_364 D N3)))) else (if l4 = (10 : Int32) then (sm_ck (N1 1 22) 600 (sm_wr (sm_up N1 1 22 (N1 26 (Int32.toNatClampNeg (N1 1 22)))) (fun N2 => (jR_evaluateNext_364 D N2)))) else (jR_evaluateNext_364 D N1))))))))))))))
noncomputable def jR_evaluateNext_72 (l1 l2 l3 l4 l5 l6 : Int32) (D : sm_D) (M : sm_M) : Option sm_S :=
  (if l6 < (0 : Int32) then (if l4 = (7 : Int32) then (if l3 = (2 : Int32) then (sm_ck l1 64 (sm_ck l1 64 (sm_ck (M 20 (Int32.toNatClampNeg l1)) 600 (sm_bi (jR_bind (M 20 (Int32.toNatClampNeg l1)) (M 26 (Int32.toNatClampNeg (M 20 (Int32.toNatClampNeg l1)))) D M) (fun x1 E1 M1 => sm_dq E1 D (sm_bi (jR_bind (M 1 22) x1 D M1) (fun x2 E2 M2 => sm_dq E2 D (sm_ck l1 64 (sm_ck (M2 20 (Int32.toNatClampNeg l1)) 600 (sm_ck (M2 25 (Int32.toNatClampNeg (M2 20 (Int32.toNatClampNeg l1)))) 40 (sm_bi (jR_step (M2 14 (Int32.toNatClampNeg (M2 25 (Int32.toNatClampNeg (M2 20 (Int32.toNatClampNeg l1)))))) x2 D M2) (fun x3 E3 M3 => sm_dq E3 D (sm_bo x3 (some (x3, D, M3))))))))))))))) else (jR_evaluateNext_152 l1 l2 l4 l5 D M)) else (jR_evaluateNext_152 l1 l2 l4 l5 D M)) else (sm_bi (jR_step l6 l5 D M) (fun x4 E4 M4 => sm_dq E4 D (sm_bo x4 (some (x4, D, M4))))))
noncomputable def jR_evaluateNext (D : sm_D) (M : sm_M) : Option sm_S :=
  (sm_ck ((M 1 20) - (1 : Int32)) 64 (sm_ck ((M 1 20) - (1 : Int32)) 64 (sm_ck (M 18 (Int32.toNatClampNeg ((M 1 20) - (1 : Int32)))) 40 (sm_ck ((M 1 20) - (1 : Int32)) 64 (sm_ck ((M 1 20) - (1 : Int32)) 64 (sm_ck ((M 1 20) - (1 : Int32)) 64 (sm_wr (sm_up M 19 (Int32.toNatClampNeg ((M 1 20) - (1 : Int32))) ((M 19 (Int32.toNatClampNeg ((M 1 20) - (1 : Int32)))) + (1 : Int32))) (fun N1 => (sm_bi (jR_partNext (M 12 (Int32.toNatClampNeg (M 18 (Int32.toNatClampNeg ((M 1 20) - (1 : Int32)))))) (M 18 (Int32.toNatClampNeg ((M 1 20) - (1 : Int32)))) (M 19 (Int32.toNatClampNeg ((M 1 20) - (1 : Int32)))) D N1) (fun x2 E2 M2 => sm_dq E2 D (if (M 19 (Int32.toNatClampNeg ((M 1 20) - (1 : Int32)))) = (1 : Int32) then (sm_ck ((M 1 20) - (1 : Int32)) 64 (sm_wr (sm_up M2 20 (Int32.toNatClampNeg ((M 1 20) - (1 : Int32))) (M2 1 22)) (fun N3 => (jR_evaluateNext_72 ((M 1 20) - (1 : Int32)) (M 18 (Int32.toNatClampNeg ((M 1 20) - (1 : Int32)))) (M 19 (Int32.toNatClampNeg ((M 1 20) - (1 : Int32)))) (M 12 (Int32.toNatClampNeg (M 18 (Int32.toNatClampNeg ((M 1 20) - (1 : Int32)))))) (M 22 (Int32.toNatClampNeg ((M 1 20) - (1 : Int32)))) x2 D N3)))) else (jR_evaluateNext_72 ((M 1 20) - (1 : Int32)) (M 18 (Int32.toNatClampNeg ((M 1 20) - (1 : Int32)))) (M 19 (Int32.toNatClampNeg ((M 1 20) - (1 : Int32)))) (M 12 (Int32.toNatClampNeg (M 18 (Int32.toNatClampNeg ((M 1 20) - (1 : Int32)))))) (M 22 (Int32.toNatClampNeg ((M 1 20) - (1 : Int32)))) x2 D M2))))))))))))
noncomputable def jR_evaluate_100 (s0 : Int32) (D : sm_D) (M : sm_M) : Option sm_S :=
  (some (s0, D, M))
noncomputable def jR_evaluate_79 (l2 : Int32) (D : sm_D) (M : sm_M) : Option sm_S :=
  (if l2 = (0 : Int32) then (sm_bi (jR_refuse (3 : Int32) D M) (fun x1 E1 M1 => sm_dq E1 D (jR_evaluate_100 x1 D M1))) else (sm_ck (M 1 22) 600 (jR_evaluate_100 (M 25 (Int32.toNatClampNeg (M 1 22))) D M)))
noncomputable def jR_evaluate_60_c (l2 : Int32) (D : sm_D) (M : sm_M) : Option ((Int32 × sm_M) ⊕ sm_S) :=
  (if l2 = (0 : Int32) then (sm_inr (jR_evaluate_79 l2 D M)) else (if (0 : Int32) < (M 1 20) then (sm_bi (jR_evaluateNext D M) (fun x1 E1 M1 => sm_dq E1 D (sm_dq D D (some (.inl (x1, M1)))))) else (sm_inr (jR_evaluate_79 l2 D M))))
noncomputable def jR_evaluate_60_b (D : sm_D) (s : Int32 × sm_M) : Option ((Int32 × sm_M) ⊕ sm_S) := jR_evaluate_60_c s.1 D s.2
noncomputable def jR_evaluate_60 (l2 : Int32) (D : sm_D) (M : sm_M) : Option sm_S := sm_lp (jR_evaluate_60_b D) (l2, M)
noncomputable def jR_evaluate (l1 : Int32) (D : sm_D) (M : sm_M) : Option sm_S :=
  (sm_wr (sm_up M 1 0 (0 : Int32)) (fun N1 => (sm_bi (jR_isExpression l1 D N1) (fun x2 E2 M2 => sm_dq E2 D (if x2 = (0 : Int32) then (sm_bi (jR_refuse (1 : Int32) D M2) (fun x10 E10 M10 => sm_dq E10 D (some (x10, D, M10)))) else (sm_bi (jR_isProgram l1 D M2) (fun x3 E3 M3 => sm_dq E3 D (if x3 = (0 : Int32) then (sm_bi (jR_refuse (2 : Int32) D M3) (fun x9 E9 M9 => sm_dq E9 D (some (x9, D, M9)))) else (sm_wr (sm_up M3 1 20 (0 : Int32)) (fun N4 => (sm_wr (sm_up N4 1 29 (0 : Int32)) (fun N5 => (sm_wr (sm_up N5 1 30 (0 : Int32)) (fun N6 => (sm_wr (sm_up N6 1 31 (0 : Int32)) (fun N7 => (sm_bi (jR_step l1 (-1 : Int32) D N7) (fun x8 E8 M8 => sm_dq E8 D (jR_evaluate_60 x8 D M8)))))))))))))))))))
noncomputable def jR_steps (D : sm_D) (M : sm_M) : Option sm_S :=
  (sm_wr (sm_up M 1 0 (0 : Int32)) (fun N1 => (some ((N1 1 29), D, N1))))
noncomputable def jR_emit_23 (l1 l2 l3 l4 s1 : Int32) (D : sm_D) (M : sm_M) : Option sm_S :=
  (sm_bo s1 (sm_wr (sm_up M 1 47 s1) (fun N1 => (if (N1 1 47) = (0 : Int32) then (sm_ck (N1 1 39) 301 (sm_wr (sm_up N1 29 (Int32.toNatClampNeg (N1 1 39)) l1) (fun N2 => (sm_ck (N2 1 39) 301 (sm_wr (sm_up N2 30 (Int32.toNatClampNeg (N2 1 39)) l2) (fun N3 => (sm_ck (N3 1 39) 301 (sm_wr (sm_up N3 31 (Int32.toNatClampNeg (N3 1 39)) l3) (fun N4 => (sm_ck (N4 1 39) 301 (sm_wr (sm_up N4 32 (Int32.toNatClampNeg (N4 1 39)) l4) (fun N5 => (sm_ck (N5 1 54) 41 (sm_ck (N5 1 54) 41 (sm_wr (sm_up N5 34 (Int32.toNatClampNeg (N5 1 54)) ((N5 34 (Int32.toNatClampNeg (N5 1 54))) + (1 : Int32))) (fun N6 => (sm_wr (sm_up N6 1 39 ((N6 1 39) + (1 : Int32))) (fun N7 => (some ((0 : Int32), D, N7)))))))))))))))))))) else (some ((0 : Int32), D, N1))))))
noncomputable def jR_emit_18 (l1 l2 l3 l4 : Int32) (D : sm_D) (M : sm_M) : Option sm_S :=
  (jR_emit_23 l1 l2 l3 l4 (1 : Int32) D M)
noncomputable def jR_emit (l1 l2 l3 l4 : Int32) (D : sm_D) (M : sm_M) : Option sm_S :=
  (if (M 1 47) = (0 : Int32) then (if (M 1 39) = (300 : Int32) then (jR_emit_18 l1 l2 l3 l4 D M) else (jR_emit_23 l1 l2 l3 l4 (0 : Int32) D M)) else (jR_emit_18 l1 l2 l3 l4 D M))
noncomputable def jR_name_42 (s1 s2 : Int32) (D : sm_D) (M : sm_M) : Option sm_S :=
  (sm_wr (sm_up M 1 52 (s1 + s2)) (fun N1 => (some (((N1 1 52) - (1 : Int32)), D, N1))))
noncomputable def jR_name_22 (s1 : Int32) (D : sm_D) (M : sm_M) : Option sm_S :=
  (sm_bo s1 (sm_wr (sm_up M 1 47 s1) (fun N1 => (if (N1 1 47) = (0 : Int32) then (jR_name_42 (N1 1 52) (1 : Int32) D N1) else (jR_name_42 (N1 1 52) (0 : Int32) D N1)))))
noncomputable def jR_name_17 (D : sm_D) (M : sm_M) : Option sm_S :=
  (jR_name_22 (1 : Int32) D M)
noncomputable def jR_name (D : sm_D) (M : sm_M) : Option sm_S :=
  (if (M 1 47) = (0 : Int32) then (if (M 1 52) = (40 : Int32) then (jR_name_17 D M) else (jR_name_22 (0 : Int32) D M)) else (jR_name_17 D M))
noncomputable def jR_beginBlock (l1 l2 l3 l4 : Int32) (D : sm_D) (M : sm_M) : Option sm_S :=
  (sm_wr (sm_up M 1 54 l1) (fun N1 => (sm_ck l1 41 (sm_wr (sm_up N1 33 (Int32.toNatClampNeg l1) (N1 1 39)) (fun N2 => (sm_ck l1 41 (sm_wr (sm_up N2 34 (Int32.toNatClampNeg l1) (0 : Int32)) (fun N3 => (sm_ck ((3 : Int32) * l1) 123 (sm_wr (sm_up N3 35 (Int32.toNatClampNeg ((3 : Int32) * l1)) l2) (fun N4 => (sm_ck (((3 : Int32) * l1) + (1 : Int32)) 123 (sm_wr (sm_up N4 35 (Int32.toNatClampNeg (((3 : Int32) * l1) + (1 : Int32))) l3) (fun N5 => (sm_ck (((3 : Int32) * l1) + (2 : Int32)) 123 (sm_wr (sm_up N5 35 (Int32.toNatClampNeg (((3 : Int32) * l1) + (2 : Int32))) l4) (fun N6 => (some ((0 : Int32), D, N6)))))))))))))))))))
noncomputable def jR_grow (l1 l2 : Int32) (D : sm_D) (M : sm_M) : Option sm_S :=
  (sm_ck (M 1 50) 1200 (sm_wr (sm_up M 40 (Int32.toNatClampNeg (M 1 50)) (M 1 51)) (fun N1 => (sm_ck (N1 1 50) 1200 (sm_wr (sm_up N1 41 (Int32.toNatClampNeg (N1 1 50)) l1) (fun N2 => (sm_ck (N2 1 50) 1200 (sm_bo l2 (sm_wr (sm_up N2 43 (Int32.toNatClampNeg (N2 1 50)) l2) (fun N3 => (sm_ck (N3 1 51) 1200 (sm_bi (jR_find (1 : Int32) (N3 42 (Int32.toNatClampNeg (N3 1 51))) l1 (-1 : Int32) D N3) (fun x4 E4 M4 => sm_dq E4 D (sm_ck (N3 1 50) 1200 (sm_wr (sm_up M4 42 (Int32.toNatClampNeg (N3 1 50)) x4) (fun N5 => (sm_wr (sm_up N5 1 51 (N5 1 50)) (fun N6 => (sm_wr (sm_up N6 1 50 ((N6 1 50) + (1 : Int32))) (fun N7 => (some ((0 : Int32), D, N7))))))))))))))))))))))
noncomputable def jR_doLater (l1 l2 l3 : Int32) (D : sm_D) (M : sm_M) : Option sm_S :=
  (sm_ck (M 1 48) 400 (sm_wr (sm_up M 36 (Int32.toNatClampNeg (M 1 48)) l1) (fun N1 => (sm_ck (N1 1 48) 400 (sm_wr (sm_up N1 37 (Int32.toNatClampNeg (N1 1 48)) l2) (fun N2 => (sm_ck (N2 1 48) 400 (sm_wr (sm_up N2 38 (Int32.toNatClampNeg (N2 1 48)) l3) (fun N3 => (sm_wr (sm_up N3 1 48 ((N3 1 48) + (1 : Int32))) (fun N4 => (some ((0 : Int32), D, N4)))))))))))))
noncomputable def jR_finish (l1 : Int32) (D : sm_D) (M : sm_M) : Option sm_S :=
  (sm_ck (M 1 49) 400 (sm_wr (sm_up M 39 (Int32.toNatClampNeg (M 1 49)) l1) (fun N1 => (sm_wr (sm_up N1 1 49 ((N1 1 49) + (1 : Int32))) (fun N2 => (some ((0 : Int32), D, N2)))))))
noncomputable def jR_doneLast (D : sm_D) (M : sm_M) : Option sm_S :=
  (sm_wr (sm_up M 1 49 ((M 1 49) - (1 : Int32))) (fun N1 => (sm_ck (N1 1 49) 400 (some ((N1 39 (Int32.toNatClampNeg (N1 1 49))), D, N1)))))
noncomputable def jR_push (l1 : Int32) (D : sm_D) (M : sm_M) : Option sm_S :=
  (sm_bi (jR_emit (4 : Int32) (1 : Int32) (1 : Int32) (2 : Int32) D M) (fun x1 E1 M1 => sm_dq E1 D (sm_bi (jR_doneLast D M1) (fun x2 E2 M2 => sm_dq E2 D (sm_bi (jR_grow x2 l1 D M2) (fun x3 E3 M3 => sm_dq E3 D (some ((0 : Int32), D, M3))))))))
noncomputable def jR_pop (D : sm_D) (M : sm_M) : Option sm_S :=
  (sm_bi (jR_emit (5 : Int32) (1 : Int32) (1 : Int32) (0 : Int32) D M) (fun x1 E1 M1 => sm_dq E1 D (sm_ck (M1 1 51) 1200 (sm_wr (sm_up M1 1 51 (M1 40 (Int32.toNatClampNeg (M1 1 51)))) (fun N2 => (some ((0 : Int32), D, N2)))))))
noncomputable def jR_variable_40 (l2 l3 s0 s1 : Int32) (D : sm_D) (M : sm_M) : Option ((Int32 × Int32 × Int32 × sm_M) ⊕ sm_S) :=
  (sm_ck l3 1200 (sm_dq D D (some (.inl ((l2 + (1 : Int32)), (M 40 (Int32.toNatClampNeg l3)), (s0 - s1), M)))))
noncomputable def jR_variable_24 (l2 l3 l4 : Int32) (D : sm_D) (M : sm_M) : Option ((Int32 × Int32 × Int32 × sm_M) ⊕ sm_S) :=
  (sm_ck l3 1200 (if (M 43 (Int32.toNatClampNeg l3)) = (0 : Int32) then (sm_dq D D (jR_variable_40 l2 l3 l4 (0 : Int32) D M)) else (sm_dq D D (jR_variable_40 l2 l3 l4 (1 : Int32) D M))))
noncomputable def jR_variable_111 (l3 : Int32) (D : sm_D) (M : sm_M) : Option sm_S :=
  (sm_ck l3 1200 (sm_bi (jR_finish (M 41 (Int32.toNatClampNeg l3)) D M) (fun x1 E1 M1 => sm_dq E1 D (some ((0 : Int32), D, M1)))))
noncomputable def jR_variable_83_c (l2 l3 l5 : Int32) (D : sm_D) (M : sm_M) : Option ((Int32 × Int32 × Int32 × sm_M) ⊕ sm_S) :=
  (if l5 < l2 then (sm_bi (jR_emit (5 : Int32) (4 : Int32) (4 : Int32) (0 : Int32) D M) (fun x2 E2 M2 => sm_dq E2 D (sm_dq D D (some (.inl (l2, l3, (l5 + (1 : Int32)), M2)))))) else (sm_bi (jR_emit (5 : Int32) (2 : Int32) (4 : Int32) (1 : Int32) D M) (fun x1 E1 M1 => sm_dq E1 D (sm_inr (jR_variable_111 l3 D M1)))))
noncomputable def jR_variable_83_b (D : sm_D) (s : Int32 × Int32 × Int32 × sm_M) : Option ((Int32 × Int32 × Int32 × sm_M) ⊕ sm_S) := jR_variable_83_c s.1 s.2.1 s.2.2.1 D s.2.2.2
noncomputable def jR_variable_83 (l2 l3 l5 : Int32) (D : sm_D) (M : sm_M) : Option sm_S := sm_lp (jR_variable_83_b D) (l2, l3, l5, M)
noncomputable def jR_variable_68 (l2 l3 : Int32) (D : sm_D) (M : sm_M) : Option sm_S :=
  (if (0 : Int32) < l2 then (sm_bi (jR_emit (5 : Int32) (4 : Int32) (1 : Int32) (0 : Int32) D M) (fun x1 E1 M1 => sm_dq E1 D (jR_variable_83 l2 l3 (1 : Int32) D M1))) else (jR_variable_111 l3 D M))
noncomputable def jR_variable_10_c (l2 l3 l4 : Int32) (D : sm_D) (M : sm_M) : Option ((Int32 × Int32 × Int32 × sm_M) ⊕ sm_S) :=
  (sm_ck l3 1200 (if (M 43 (Int32.toNatClampNeg l3)) = (0 : Int32) then (sm_dq D D (jR_variable_24 l2 l3 l4 D M)) else (if (0 : Int32) < l4 then (sm_dq D D (jR_variable_24 l2 l3 l4 D M)) else (if l2 = (0 : Int32) then (sm_bi (jR_emit (5 : Int32) (2 : Int32) (1 : Int32) (1 : Int32) D M) (fun x1 E1 M1 => sm_dq E1 D (sm_inr (jR_variable_68 l2 l3 D M1)))) else (sm_inr (jR_variable_68 l2 l3 D M))))))
noncomputable def jR_variable_10_b (D : sm_D) (s : Int32 × Int32 × Int32 × sm_M) : Option ((Int32 × Int32 × Int32 × sm_M) ⊕ sm_S) := jR_variable_10_c s.1 s.2.1 s.2.2.1 D s.2.2.2
noncomputable def jR_variable_10 (l2 l3 l4 : Int32) (D : sm_D) (M : sm_M) : Option sm_S := sm_lp (jR_variable_10_b D) (l2, l3, l4, M)
noncomputable def jR_variable (l1 : Int32) (D : sm_D) (M : sm_M) : Option sm_S :=
  (jR_variable_10 (0 : Int32) (M 1 51) l1 D M)
noncomputable def jR_lambda_91 (l1 : Int32) (D : sm_D) (M : sm_M) : Option sm_S :=
  (sm_ck l1 40 (sm_ck (M 13 (Int32.toNatClampNeg l1)) 30 (sm_bi (jR_finish (M 7 (Int32.toNatClampNeg (M 13 (Int32.toNatClampNeg l1)))) D M) (fun x1 E1 M1 => sm_dq E1 D (some ((0 : Int32), D, M1))))))
noncomputable def jR_lambda (l1 : Int32) (D : sm_D) (M : sm_M) : Option sm_S :=
  (sm_bi (jR_name D M) (fun x1 E1 M1 => sm_dq E1 D (sm_bi (jR_emit (6 : Int32) (4 : Int32) x1 (0 : Int32) D M1) (fun x2 E2 M2 => sm_dq E2 D (sm_bi (jR_emit (4 : Int32) (4 : Int32) (4 : Int32) (1 : Int32) D M2) (fun x3 E3 M3 => sm_dq E3 D (sm_ck l1 40 (sm_ck (M3 13 (Int32.toNatClampNeg l1)) 30 (sm_bi (jR_emit (7 : Int32) (2 : Int32) (4 : Int32) (M3 7 (Int32.toNatClampNeg (M3 13 (Int32.toNatClampNeg l1)))) D M3) (fun x4 E4 M4 => sm_dq E4 D (if (M4 1 47) = (0 : Int32) then (sm_ck (M4 1 53) 64 (sm_wr (sm_up M4 44 (Int32.toNatClampNeg (M4 1 53)) l1) (fun N5 => (sm_ck (N5 1 53) 64 (sm_wr (sm_up N5 45 (Int32.toNatClampNeg (N5 1 53)) (N5 1 51)) (fun N6 => (sm_ck (N6 1 53) 64 (sm_wr (sm_up N6 46 (Int32.toNatClampNeg (N6 1 53)) x1) (fun N7 => (sm_wr (sm_up N7 1 53 ((N7 1 53) + (1 : Int32))) (fun N8 => (jR_lambda_91 l1 D N8)))))))))))) else (jR_lambda_91 l1 D M4))))))))))))
noncomputable def jR_write_190 (l1 : Int32) (D : sm_D) (M : sm_M) : Option sm_S :=
  (sm_ck l1 40 (sm_bi (jR_doLater (0 : Int32) (M 14 (Int32.toNatClampNeg l1)) (0 : Int32) D M) (fun x1 E1 M1 => sm_dq E1 D (some ((0 : Int32), D, M1)))))
noncomputable def jR_write_110 (l1 : Int32) (D : sm_D) (M : sm_M) : Option sm_S :=
  (sm_ck l1 40 (sm_bi (jR_doLater (4 : Int32) ((M 12 (Int32.toNatClampNeg l1)) - (9 : Int32)) (0 : Int32) D M) (fun x1 E1 M1 => sm_dq E1 D (jR_write_190 l1 D M1))))
noncomputable def jR_write_161 (l1 s1 : Int32) (D : sm_D) (M : sm_M) : Option sm_S :=
  (sm_ck l1 40 (sm_bi (jR_doLater s1 (M 12 (Int32.toNatClampNeg l1)) (0 : Int32) D M) (fun x1 E1 M1 => sm_dq E1 D (sm_ck l1 40 (sm_bi (jR_doLater (0 : Int32) (M1 15 (Int32.toNatClampNeg l1)) (0 : Int32) D M1) (fun x2 E2 M2 => sm_dq E2 D (sm_bi (jR_doLater (1 : Int32) (0 : Int32) (0 : Int32) D M2) (fun x3 E3 M3 => sm_dq E3 D (jR_write_190 l1 D M3)))))))))
noncomputable def jR_write_128 (l1 : Int32) (D : sm_D) (M : sm_M) : Option sm_S :=
  (sm_ck l1 40 (if (M 12 (Int32.toNatClampNeg l1)) = (7 : Int32) then (jR_write_161 l1 (8 : Int32) D M) else (sm_ck l1 40 (if (M 12 (Int32.toNatClampNeg l1)) = (8 : Int32) then (jR_write_161 l1 (3 : Int32) D M) else (jR_write_161 l1 (2 : Int32) D M)))))
noncomputable def jR_write (l1 : Int32) (D : sm_D) (M : sm_M) : Option sm_S :=
  (sm_ck l1 40 (if (M 12 (Int32.toNatClampNeg l1)) = (0 : Int32) then (sm_ck l1 40 (sm_bi (jR_emit (0 : Int32) (2 : Int32) (M 13 (Int32.toNatClampNeg l1)) (0 : Int32) D M) (fun x4 E4 M4 => sm_dq E4 D (sm_bi (jR_finish (0 : Int32) D M4) (fun x5 E5 M5 => sm_dq E5 D (some ((0 : Int32), D, M5))))))) else (if (M 12 (Int32.toNatClampNeg l1)) = (1 : Int32) then (sm_ck l1 40 (sm_bi (jR_variable (M 13 (Int32.toNatClampNeg l1)) D M) (fun x3 E3 M3 => sm_dq E3 D (some ((0 : Int32), D, M3))))) else (if (M 12 (Int32.toNatClampNeg l1)) = (2 : Int32) then (jR_write_128 l1 D M) else (if (M 12 (Int32.toNatClampNeg l1)) = (3 : Int32) then (jR_write_128 l1 D M) else (if (M 12 (Int32.toNatClampNeg l1)) = (4 : Int32) then (jR_write_128 l1 D M) else (if (M 12 (Int32.toNatClampNeg l1)) = (5 : Int32) then (sm_bi (jR_doLater (5 : Int32) l1 (0 : Int32) D M) (fun x2 E2 M2 => sm_dq E2 D (jR_write_190 l1 D M2))) else (if (M 12 (Int32.toNatClampNeg l1)) = (6 : Int32) then (sm_bi (jR_lambda l1 D M) (fun x1 E1 M1 => sm_dq E1 D (some ((0 : Int32), D, M1)))) else (if (M 12 (Int32.toNatClampNeg l1)) = (7 : Int32) then (jR_write_128 l1 D M) else (if (M 12 (Int32.toNatClampNeg l1)) = (8 : Int32) then (jR_write_128 l1 D M) else (if (M 12 (Int32.toNatClampNeg l1)) = (9 : Int32) then (jR_write_110 l1 D M) else (if (M 12 (Int32.toNatClampNeg l1)) = (10 : Int32) then (jR_write_110 l1 D M) else (jR_write_128 l1 D M)))))))))))))
noncomputable def jR_call_128 (l1 : Int32) (D : sm_D) (M : sm_M) : Option sm_S :=
  (sm_bi (jR_finish l1 D M) (fun x1 E1 M1 => sm_dq E1 D (some ((0 : Int32), D, M1))))
noncomputable def jR_call (D : sm_D) (M : sm_M) : Option sm_S :=
  (sm_bi (jR_doneLast D M) (fun x1 E1 M1 => sm_dq E1 D (sm_ck (M1 1 51) 1200 (sm_ck (M1 41 (Int32.toNatClampNeg (M1 1 51))) 3000 (sm_bi (jR_name D M1) (fun x2 E2 M2 => sm_dq E2 D (sm_bi (jR_emit (6 : Int32) (4 : Int32) x2 (0 : Int32) D M2) (fun x3 E3 M3 => sm_dq E3 D (sm_bi (jR_emit (5 : Int32) (5 : Int32) (1 : Int32) (0 : Int32) D M3) (fun x4 E4 M4 => sm_dq E4 D (sm_bi (jR_emit (4 : Int32) (4 : Int32) (4 : Int32) (5 : Int32) D M4) (fun x5 E5 M5 => sm_dq E5 D (sm_bi (jR_find (3 : Int32) (M1 4 (Int32.toNatClampNeg (M1 41 (Int32.toNatClampNeg (M1 1 51))))) (-1 : Int32) (-1 : Int32) D M5) (fun x6 E6 M6 => sm_dq E6 D (sm_bi (jR_emit (7 : Int32) (3 : Int32) (4 : Int32) x6 D M6) (fun x7 E7 M7 => sm_dq E7 D (sm_bi (jR_emit (5 : Int32) (4 : Int32) (1 : Int32) (1 : Int32) D M7) (fun x8 E8 M8 => sm_dq E8 D (sm_bi (jR_emit (8 : Int32) (5 : Int32) (1 : Int32) (4 : Int32) D M8) (fun x9 E9 M9 => sm_dq E9 D (sm_bi (jR_emit (11 : Int32) (5 : Int32) (0 : Int32) (0 : Int32) D M9) (fun x10 E10 M10 => sm_dq E10 D (sm_ck (M10 1 51) 1200 (sm_wr (sm_up M10 1 51 (M10 40 (Int32.toNatClampNeg (M10 1 51)))) (fun N11 => (if (N11 1 47) = (0 : Int32) then (sm_ck (N11 1 51) 1200 (sm_bi (jR_beginBlock x2 (N11 42 (Int32.toNatClampNeg (N11 1 51))) (M1 4 (Int32.toNatClampNeg (M1 41 (Int32.toNatClampNeg (M1 1 51))))) (-1 : Int32) D N11) (fun x12 E12 M12 => sm_dq E12 D (jR_call_128 (M1 4 (Int32.toNatClampNeg (M1 41 (Int32.toNatClampNeg (M1 1 51))))) D M12)))) else (jR_call_128 (M1 4 (Int32.toNatClampNeg (M1 41 (Int32.toNatClampNeg (M1 1 51))))) D N11)))))))))))))))))))))))))))
noncomputable def jR_choose (l1 : Int32) (D : sm_D) (M : sm_M) : Option sm_S :=
  (sm_bi (jR_doneLast D M) (fun x1 E1 M1 => sm_dq E1 D (sm_bi (jR_name D M1) (fun x2 E2 M2 => sm_dq E2 D (sm_bi (jR_name D M2) (fun x3 E3 M3 => sm_dq E3 D (sm_bi (jR_emit (10 : Int32) (2 : Int32) x2 (0 : Int32) D M3) (fun x4 E4 M4 => sm_dq E4 D (sm_bi (jR_doLater (7 : Int32) x3 (0 : Int32) D M4) (fun x5 E5 M5 => sm_dq E5 D (sm_ck l1 40 (sm_bi (jR_doLater (0 : Int32) (M5 16 (Int32.toNatClampNeg l1)) (0 : Int32) D M5) (fun x6 E6 M6 => sm_dq E6 D (sm_bi (jR_doLater (6 : Int32) x2 x3 D M6) (fun x7 E7 M7 => sm_dq E7 D (sm_ck l1 40 (sm_bi (jR_doLater (0 : Int32) (M7 15 (Int32.toNatClampNeg l1)) (0 : Int32) D M7) (fun x8 E8 M8 => sm_dq E8 D (some ((0 : Int32), D, M8))))))))))))))))))))
noncomputable def jR_doNext_323 (D : sm_D) (M : sm_M) : Option sm_S :=
  (some ((0 : Int32), D, M))
noncomputable def jR_doNext_215 (s1 : Int32) (D : sm_D) (M : sm_M) : Option sm_S :=
  (sm_bi (jR_finish s1 D M) (fun x1 E1 M1 => sm_dq E1 D (jR_doNext_323 D M1)))
noncomputable def jR_doNext (D : sm_D) (M : sm_M) : Option sm_S :=
  (sm_wr (sm_up M 1 48 ((M 1 48) - (1 : Int32))) (fun N1 => (sm_ck (N1 1 48) 400 (sm_ck (N1 1 48) 400 (if (N1 36 (Int32.toNatClampNeg (N1 1 48))) = (0 : Int32) then (sm_bi (jR_write (N1 37 (Int32.toNatClampNeg (N1 1 48))) D N1) (fun x23 E23 M23 => sm_dq E23 D (jR_doNext_323 D M23))) else (if (N1 36 (Int32.toNatClampNeg (N1 1 48))) = (1 : Int32) then (sm_bi (jR_push (0 : Int32) D N1) (fun x22 E22 M22 => sm_dq E22 D (jR_doNext_323 D M22))) else (if (N1 36 (Int32.toNatClampNeg (N1 1 48))) = (2 : Int32) then (sm_bi (jR_doneLast D N1) (fun x17 E17 M17 => sm_dq E17 D (sm_bi (jR_emit (5 : Int32) (4 : Int32) (1 : Int32) (1 : Int32) D M17) (fun x18 E18 M18 => sm_dq E18 D (sm_bi (jR_emit ((N1 37 (Int32.toNatClampNeg (N1 1 48))) - (1 : Int32)) (2 : Int32) (4 : Int32) (2 : Int32) D M18) (fun x19 E19 M19 => sm_dq E19 D (sm_bi (jR_pop D M19) (fun x20 E20 M20 => sm_dq E20 D (sm_bi (jR_finish (0 : Int32) D M20) (fun x21 E21 M21 => sm_dq E21 D (jR_doNext_323 D M21))))))))))) else (if (N1 36 (Int32.toNatClampNeg (N1 1 48))) = (3 : Int32) then (sm_bi (jR_doneLast D N1) (fun x11 E11 M11 => sm_dq E11 D (sm_ck (M11 1 51) 1200 (sm_bi (jR_emit (5 : Int32) (4 : Int32) (1 : Int32) (1 : Int32) D M11) (fun x12 E12 M12 => sm_dq E12 D (sm_bi (jR_emit (4 : Int32) (2 : Int32) (4 : Int32) (2 : Int32) D M12) (fun x13 E13 M13 => sm_dq E13 D (sm_bi (jR_pop D M13) (fun x14 E14 M14 => sm_dq E14 D (sm_bi (jR_find (1 : Int32) (M11 41 (Int32.toNatClampNeg (M11 1 51))) x11 (-1 : Int32) D M14) (fun x15 E15 M15 => sm_dq E15 D (sm_bi (jR_finish x15 D M15) (fun x16 E16 M16 => sm_dq E16 D (jR_doNext_323 D M16)))))))))))))) else (if (N1 36 (Int32.toNatClampNeg (N1 1 48))) = (4 : Int32) then (sm_bi (jR_doneLast D N1) (fun x9 E9 M9 => sm_dq E9 D (sm_bi (jR_emit (5 : Int32) (2 : Int32) (2 : Int32) (N1 37 (Int32.toNatClampNeg (N1 1 48))) D M9) (fun x10 E10 M10 => sm_dq E10 D (if (N1 37 (Int32.toNatClampNeg (N1 1 48))) = (0 : Int32) then (sm_ck x9 3000 (jR_doNext_215 (M10 3 (Int32.toNatClampNeg x9)) D M10)) else (sm_ck x9 3000 (jR_doNext_215 (M10 4 (Int32.toNatClampNeg x9)) D M10))))))) else (if (N1 36 (Int32.toNatClampNeg (N1 1 48))) = (5 : Int32) then (sm_bi (jR_choose (N1 37 (Int32.toNatClampNeg (N1 1 48))) D N1) (fun x8 E8 M8 => sm_dq E8 D (jR_doNext_323 D M8))) else (if (N1 36 (Int32.toNatClampNeg (N1 1 48))) = (6 : Int32) then (sm_bi (jR_doneLast D N1) (fun x5 E5 M5 => sm_dq E5 D (sm_ck (N1 1 48) 400 (sm_bi (jR_emit (9 : Int32) (M5 38 (Int32.toNatClampNeg (N1 1 48))) (0 : Int32) (0 : Int32) D M5) (fun x6 E6 M6 => sm_dq E6 D (if (M6 1 47) = (0 : Int32) then (sm_ck (M6 1 51) 1200 (sm_bi (jR_beginBlock (N1 37 (Int32.toNatClampNeg (N1 1 48))) (M6 42 (Int32.toNatClampNeg (M6 1 51))) (-1 : Int32) (-1 : Int32) D M6) (fun x7 E7 M7 => sm_dq E7 D (jR_doNext_323 D M7)))) else (jR_doNext_323 D M6))))))) else (if (N1 36 (Int32.toNatClampNeg (N1 1 48))) = (7 : Int32) then (sm_bi (jR_emit (9 : Int32) (N1 37 (Int32.toNatClampNeg (N1 1 48))) (0 : Int32) (0 : Int32) D N1) (fun x3 E3 M3 => sm_dq E3 D (if (M3 1 47) = (0 : Int32) then (sm_ck (M3 1 51) 1200 (sm_ck ((M3 1 49) - (1 : Int32)) 400 (sm_bi (jR_beginBlock (N1 37 (Int32.toNatClampNeg (N1 1 48))) (M3 42 (Int32.toNatClampNeg (M3 1 51))) (M3 39 (Int32.toNatClampNeg ((M3 1 49) - (1 : Int32)))) (-1 : Int32) D M3) (fun x4 E4 M4 => sm_dq E4 D (jR_doNext_323 D M4))))) else (jR_doNext_323 D M3)))) else (sm_bi (jR_call D N1) (fun x2 E2 M2 => sm_dq E2 D (jR_doNext_323 D M2)))))))))))))))
noncomputable def jR_writeAll_33 (D : sm_D) (M : sm_M) : Option sm_S :=
  (some ((0 : Int32), D, M))
noncomputable def jR_writeAll_12_c (D : sm_D) (M : sm_M) : Option ((sm_M) ⊕ sm_S) :=
  (if (0 : Int32) < (M 1 48) then (if (M 1 47) = (0 : Int32) then (sm_bi (jR_doNext D M) (fun x1 E1 M1 => sm_dq E1 D (sm_dq D D (some (.inl (M1)))))) else (sm_inr (jR_writeAll_33 D M))) else (sm_inr (jR_writeAll_33 D M)))
noncomputable def jR_writeAll_12_b (D : sm_D) (s : sm_M) : Option ((sm_M) ⊕ sm_S) := jR_writeAll_12_c D s
noncomputable def jR_writeAll_12 (D : sm_D) (M : sm_M) : Option sm_S := sm_lp (jR_writeAll_12_b D) (M)
noncomputable def jR_writeAll (l1 : Int32) (D : sm_D) (M : sm_M) : Option sm_S :=
  (sm_wr (sm_up M 1 48 (0 : Int32)) (fun N1 => (sm_bi (jR_doLater (0 : Int32) l1 (0 : Int32) D N1) (fun x2 E2 M2 => sm_dq E2 D (jR_writeAll_12 D M2)))))
noncomputable def jR_writeBody (l1 : Int32) (D : sm_D) (M : sm_M) : Option sm_S :=
  (sm_ck l1 64 (sm_ck (M 44 (Int32.toNatClampNeg l1)) 40 (sm_ck (M 13 (Int32.toNatClampNeg (M 44 (Int32.toNatClampNeg l1)))) 30 (sm_ck (M 7 (Int32.toNatClampNeg (M 13 (Int32.toNatClampNeg (M 44 (Int32.toNatClampNeg l1)))))) 3000 (sm_bi (jR_find (3 : Int32) (M 4 (Int32.toNatClampNeg (M 7 (Int32.toNatClampNeg (M 13 (Int32.toNatClampNeg (M 44 (Int32.toNatClampNeg l1)))))))) (-1 : Int32) (-1 : Int32) D M) (fun x1 E1 M1 => sm_dq E1 D (sm_ck l1 64 (sm_wr (sm_up M1 1 51 (M1 45 (Int32.toNatClampNeg l1))) (fun N2 => (sm_ck l1 64 (sm_ck (N2 1 51) 1200 (sm_ck (M 7 (Int32.toNatClampNeg (M 13 (Int32.toNatClampNeg (M 44 (Int32.toNatClampNeg l1)))))) 3000 (sm_bi (jR_beginBlock (N2 46 (Int32.toNatClampNeg l1)) (N2 42 (Int32.toNatClampNeg (N2 1 51))) (N2 3 (Int32.toNatClampNeg (M 7 (Int32.toNatClampNeg (M 13 (Int32.toNatClampNeg (M 44 (Int32.toNatClampNeg l1)))))))) x1 D N2) (fun x3 E3 M3 => sm_dq E3 D (sm_ck l1 64 (sm_bi (jR_emit (6 : Int32) (4 : Int32) (M3 46 (Int32.toNatClampNeg l1)) (0 : Int32) D M3) (fun x4 E4 M4 => sm_dq E4 D (sm_bi (jR_emit (4 : Int32) (4 : Int32) (4 : Int32) (1 : Int32) D M4) (fun x5 E5 M5 => sm_dq E5 D (sm_bi (jR_emit (7 : Int32) (4 : Int32) (4 : Int32) (M 7 (Int32.toNatClampNeg (M 13 (Int32.toNatClampNeg (M 44 (Int32.toNatClampNeg l1)))))) D M5) (fun x6 E6 M6 => sm_dq E6 D (sm_bi (jR_emit (4 : Int32) (1 : Int32) (1 : Int32) (4 : Int32) D M6) (fun x7 E7 M7 => sm_dq E7 D (sm_bi (jR_grow (M 7 (Int32.toNatClampNeg (M 13 (Int32.toNatClampNeg (M 44 (Int32.toNatClampNeg l1)))))) (1 : Int32) D M7) (fun x8 E8 M8 => sm_dq E8 D (sm_bi (jR_emit (4 : Int32) (1 : Int32) (1 : Int32) (3 : Int32) D M8) (fun x9 E9 M9 => sm_dq E9 D (sm_bi (jR_grow x1 (0 : Int32) D M9) (fun x10 E10 M10 => sm_dq E10 D (sm_ck (M 7 (Int32.toNatClampNeg (M 13 (Int32.toNatClampNeg (M 44 (Int32.toNatClampNeg l1)))))) 3000 (sm_bi (jR_finish (M10 3 (Int32.toNatClampNeg (M 7 (Int32.toNatClampNeg (M 13 (Int32.toNatClampNeg (M 44 (Int32.toNatClampNeg l1)))))))) D M10) (fun x11 E11 M11 => sm_dq E11 D (sm_bi (jR_push (1 : Int32) D M11) (fun x12 E12 M12 => sm_dq E12 D (sm_ck (M 44 (Int32.toNatClampNeg l1)) 40 (sm_bi (jR_writeAll (M12 14 (Int32.toNatClampNeg (M 44 (Int32.toNatClampNeg l1)))) D M12) (fun x13 E13 M13 => sm_dq E13 D (sm_bi (jR_doneLast D M13) (fun x14 E14 M14 => sm_dq E14 D (sm_bi (jR_emit (5 : Int32) (4 : Int32) (1 : Int32) (0 : Int32) D M14) (fun x15 E15 M15 => sm_dq E15 D (sm_bi (jR_emit (5 : Int32) (4 : Int32) (4 : Int32) (1 : Int32) D M15) (fun x16 E16 M16 => sm_dq E16 D (sm_bi (jR_emit (8 : Int32) (5 : Int32) (1 : Int32) (4 : Int32) D M16) (fun x17 E17 M17 => sm_dq E17 D (sm_bi (jR_emit (11 : Int32) (5 : Int32) (0 : Int32) (0 : Int32) D M17) (fun x18 E18 M18 => sm_dq E18 D (some ((0 : Int32), D, M18)))))))))))))))))))))))))))))))))))))))))))))))))
noncomputable def jR_writeProgram_121 (s0 : Int32) (D : sm_D) (M : sm_M) : Option sm_S :=
  (sm_bo s0 (some (s0, D, M)))
noncomputable def jR_writeProgram_109 (D : sm_D) (M : sm_M) : Option sm_S :=
  (if (M 1 47) = (0 : Int32) then (jR_writeProgram_121 (1 : Int32) D M) else (jR_writeProgram_121 (0 : Int32) D M))
noncomputable def jR_writeProgram_83_c (l2 : Int32) (D : sm_D) (M : sm_M) : Option ((Int32 × sm_M) ⊕ sm_S) :=
  (if l2 < (M 1 53) then (if (M 1 47) = (0 : Int32) then (sm_bi (jR_writeBody l2 D M) (fun x1 E1 M1 => sm_dq E1 D (sm_dq D D (some (.inl ((l2 + (1 : Int32)), M1)))))) else (sm_inr (jR_writeProgram_109 D M))) else (sm_inr (jR_writeProgram_109 D M)))
noncomputable def jR_writeProgram_83_b (D : sm_D) (s : Int32 × sm_M) : Option ((Int32 × sm_M) ⊕ sm_S) := jR_writeProgram_83_c s.1 D s.2
noncomputable def jR_writeProgram_83 (l2 : Int32) (D : sm_D) (M : sm_M) : Option sm_S := sm_lp (jR_writeProgram_83_b D) (l2, M)
noncomputable def jR_writeProgram (l1 : Int32) (D : sm_D) (M : sm_M) : Option sm_S :=
  (sm_bo (0 : Int32) (sm_wr (sm_up M 1 47 (0 : Int32)) (fun N1 => (sm_wr (sm_up N1 1 39 (0 : Int32)) (fun N2 => (sm_wr (sm_up N2 1 52 (0 : Int32)) (fun N3 => (sm_wr (sm_up N3 1 53 (0 : Int32)) (fun N4 => (sm_wr (sm_up N4 1 49 (0 : Int32)) (fun N5 => (sm_wr (sm_up N5 1 50 (1 : Int32)) (fun N6 => (sm_wr (sm_up N6 1 51 (0 : Int32)) (fun N7 => (sm_ck (0 : Int32) 1200 (sm_wr (sm_up N7 42 (Int32.toNatClampNeg (0 : Int32)) (0 : Int32)) (fun N8 => (sm_ck (0 : Int32) 1200 (sm_bo (0 : Int32) (sm_wr (sm_up N8 43 (Int32.toNatClampNeg (0 : Int32)) (0 : Int32)) (fun N9 => (sm_ck (0 : Int32) 1200 (sm_wr (sm_up N9 40 (Int32.toNatClampNeg (0 : Int32)) (0 : Int32)) (fun N10 => (sm_bi (jR_name D N10) (fun x11 E11 M11 => sm_dq E11 D (sm_bi (jR_beginBlock x11 (0 : Int32) (-1 : Int32) (-1 : Int32) D M11) (fun x12 E12 M12 => sm_dq E12 D (sm_bi (jR_writeAll l1 D M12) (fun x13 E13 M13 => sm_dq E13 D (sm_bi (jR_emit (12 : Int32) (0 : Int32) (0 : Int32) (0 : Int32) D M13) (fun x14 E14 M14 => sm_dq E14 D (jR_writeProgram_83 (0 : Int32) D M14))))))))))))))))))))))))))))))))))
noncomputable def jR_copy_2_c (p q L : Nat) (l2 l3 : Int32) (D : sm_D) (M : sm_M) : Option ((Int32 × Int32 × sm_M) ⊕ sm_S) :=
  (if l3 < l2 then (sm_ck l3 L (sm_ck l3 L (sm_wr (sm_up M q (Int32.toNatClampNeg l3) (M p (Int32.toNatClampNeg l3))) (fun N1 => (sm_eqp p p (sm_eqp q q (sm_dq D D (some (.inl (l2, (l3 + (1 : Int32)), N1)))))))))) else (some (.inr ((0 : Int32), D, M))))
noncomputable def jR_copy_2_b (p q L : Nat) (D : sm_D) (s : Int32 × Int32 × sm_M) : Option ((Int32 × Int32 × sm_M) ⊕ sm_S) := jR_copy_2_c p q L s.1 s.2.1 D s.2.2
noncomputable def jR_copy_2 (p q L : Nat) (l2 l3 : Int32) (D : sm_D) (M : sm_M) : Option sm_S := sm_lp (jR_copy_2_b p q L D) (l2, l3, M)
noncomputable def jR_copy (p q L : Nat) (l2 : Int32) (D : sm_D) (M : sm_M) : Option sm_S :=
  (sm_eqp p p (sm_eqp q q (jR_copy_2 p q L l2 (0 : Int32) D M)))
noncomputable def jR_keep0 (D : sm_D) (M : sm_M) : Option sm_S :=
  (sm_bi (sm_ga [29, 54, 301] gY (jR_copy 29 54 301 (301 : Int32) D M)) (fun x1 E1 M1 => sm_dq E1 D (sm_bi (sm_ga [30, 55, 301] gY (jR_copy 30 55 301 (301 : Int32) D M1)) (fun x2 E2 M2 => sm_dq E2 D (sm_bi (sm_ga [31, 56, 301] gY (jR_copy 31 56 301 (301 : Int32) D M2)) (fun x3 E3 M3 => sm_dq E3 D (sm_bi (sm_ga [32, 57, 301] gY (jR_copy 32 57 301 (301 : Int32) D M3)) (fun x4 E4 M4 => sm_dq E4 D (sm_bi (sm_ga [33, 58, 41] gY (jR_copy 33 58 41 (41 : Int32) D M4)) (fun x5 E5 M5 => sm_dq E5 D (sm_bi (sm_ga [34, 59, 41] gY (jR_copy 34 59 41 (41 : Int32) D M5)) (fun x6 E6 M6 => sm_dq E6 D (sm_bi (sm_ga [35, 60, 123] gY (jR_copy 35 60 123 (123 : Int32) D M6)) (fun x7 E7 M7 => sm_dq E7 D (some ((0 : Int32), D, M7))))))))))))))))
noncomputable def jR_keep1 (D : sm_D) (M : sm_M) : Option sm_S :=
  (sm_bi (sm_ga [54, 29, 301] gY (jR_copy 54 29 301 (301 : Int32) D M)) (fun x1 E1 M1 => sm_dq E1 D (sm_bi (sm_ga [55, 30, 301] gY (jR_copy 55 30 301 (301 : Int32) D M1)) (fun x2 E2 M2 => sm_dq E2 D (sm_bi (sm_ga [56, 31, 301] gY (jR_copy 56 31 301 (301 : Int32) D M2)) (fun x3 E3 M3 => sm_dq E3 D (sm_bi (sm_ga [57, 32, 301] gY (jR_copy 57 32 301 (301 : Int32) D M3)) (fun x4 E4 M4 => sm_dq E4 D (sm_bi (sm_ga [58, 33, 41] gY (jR_copy 58 33 41 (41 : Int32) D M4)) (fun x5 E5 M5 => sm_dq E5 D (sm_bi (sm_ga [59, 34, 41] gY (jR_copy 59 34 41 (41 : Int32) D M5)) (fun x6 E6 M6 => sm_dq E6 D (sm_bi (sm_ga [60, 35, 123] gY (jR_copy 60 35 123 (123 : Int32) D M6)) (fun x7 E7 M7 => sm_dq E7 D (some ((0 : Int32), D, M7))))))))))))))))
noncomputable def jR_keep (l1 : Int32) (D : sm_D) (M : sm_M) : Option sm_S := if l1 = 0 then jR_keep0 D M else if l1 = 1 then jR_keep1 D M else none
noncomputable def jR_restart_33 (l1 s1 s2 : Int32) (D : sm_D) (M : sm_M) : Option ((Int32 × sm_M) ⊕ sm_S) :=
  (sm_ck s1 6 (sm_wr (sm_up M 47 (Int32.toNatClampNeg s1) s2) (fun N1 => (sm_ck l1 6 (sm_wr (sm_up N1 48 (Int32.toNatClampNeg l1) (0 : Int32)) (fun N2 => (sm_dq D D (some (.inl ((l1 + (1 : Int32)), N2))))))))))
noncomputable def jR_restart_12_c (l1 : Int32) (D : sm_D) (M : sm_M) : Option ((Int32 × sm_M) ⊕ sm_S) :=
  (if l1 < (6 : Int32) then (if l1 = (1 : Int32) then (sm_dq D D (jR_restart_33 l1 l1 (1 : Int32) D M)) else (sm_dq D D (jR_restart_33 l1 l1 (0 : Int32) D M))) else (sm_wr (sm_up M 1 67 (0 : Int32)) (fun N1 => (sm_wr (sm_up N1 1 68 (-1 : Int32)) (fun N2 => (some (.inr ((0 : Int32), D, N2))))))))
noncomputable def jR_restart_12_b (D : sm_D) (s : Int32 × sm_M) : Option ((Int32 × sm_M) ⊕ sm_S) := jR_restart_12_c s.1 D s.2
noncomputable def jR_restart_12 (l1 : Int32) (D : sm_D) (M : sm_M) : Option sm_S := sm_lp (jR_restart_12_b D) (l1, M)
noncomputable def jR_restart (D : sm_D) (M : sm_M) : Option sm_S :=
  (sm_wr (sm_up M 1 66 (0 : Int32)) (fun N1 => (sm_wr (sm_up N1 1 69 (0 : Int32)) (fun N2 => (jR_restart_12 (1 : Int32) D N2)))))
noncomputable def jR_compile_85_c (l1 l4 : Int32) (D : sm_D) (M : sm_M) : Option ((Int32 × Int32 × sm_M) ⊕ sm_S) :=
  (if l4 < (M 1 7) then (sm_ck l4 30 (sm_ck l4 30 (sm_bi (jR_numberOf (M 9 (Int32.toNatClampNeg l4)) D M) (fun x5 E5 M5 => sm_dq E5 D (sm_ck l4 30 (sm_bi (jR_numberOf (M5 10 (Int32.toNatClampNeg l4)) D M5) (fun x6 E6 M6 => sm_dq E6 D (sm_ck l4 30 (sm_bi (jR_numberOf (M6 11 (Int32.toNatClampNeg l4)) D M6) (fun x7 E7 M7 => sm_dq E7 D (sm_bi (jR_find (M 8 (Int32.toNatClampNeg l4)) x5 x6 x7 D M7) (fun x8 E8 M8 => sm_dq E8 D (sm_ck l4 30 (sm_wr (sm_up M8 7 (Int32.toNatClampNeg l4) x8) (fun N9 => (sm_dq D D (some (.inl (l1, (l4 + (1 : Int32)), N9))))))))))))))))))) else (sm_bi (jR_writeProgram l1 D M) (fun x1 E1 M1 => sm_dq E1 D (sm_wr (sm_up M1 1 38 (M1 1 52)) (fun N2 => (sm_bo (1 : Int32) (sm_wr (sm_up N2 1 37 (1 : Int32)) (fun N3 => (sm_bi (jR_restart D N3) (fun x4 E4 M4 => sm_dq E4 D (some (.inr ((M4 1 39), D, M4)))))))))))))
noncomputable def jR_compile_85_b (D : sm_D) (s : Int32 × Int32 × sm_M) : Option ((Int32 × Int32 × sm_M) ⊕ sm_S) := jR_compile_85_c s.1 s.2.1 D s.2.2
noncomputable def jR_compile_85 (l1 l4 : Int32) (D : sm_D) (M : sm_M) : Option sm_S := sm_lp (jR_compile_85_b D) (l1, l4, M)
noncomputable def jR_compile (l1 : Int32) (D : sm_D) (M : sm_M) : Option sm_S :=
  (sm_wr (sm_up M 1 0 (0 : Int32)) (fun N1 => (sm_bi (jR_isExpression l1 D N1) (fun x2 E2 M2 => sm_dq E2 D (if x2 = (0 : Int32) then (sm_bi (jR_refuse (1 : Int32) D M2) (fun x12 E12 M12 => sm_dq E12 D (some (x12, D, M12)))) else (sm_bi (jR_isProgram l1 D M2) (fun x3 E3 M3 => sm_dq E3 D (if x3 = (0 : Int32) then (sm_bi (jR_refuse (2 : Int32) D M3) (fun x11 E11 M11 => sm_dq E11 D (some (x11, D, M11)))) else (sm_bi (jR_keep (0 : Int32) D M3) (fun x4 E4 M4 => sm_dq E4 D (sm_bi (jR_writeProgram l1 D M4) (fun x5 E5 M5 => sm_dq E5 D (if x5 = (0 : Int32) then (sm_wr (sm_up M5 1 1 (M3 1 1)) (fun N7 => (sm_wr (sm_up N7 1 39 (M3 1 39)) (fun N8 => (sm_bi (jR_keep (1 : Int32) D N8) (fun x9 E9 M9 => sm_dq E9 D (sm_bi (jR_refuse (3 : Int32) D M9) (fun x10 E10 M10 => sm_dq E10 D (some (x10, D, M10)))))))))) else (sm_wr (sm_up M5 1 1 (0 : Int32)) (fun N6 => (jR_compile_85 l1 (0 : Int32) D N6))))))))))))))))
noncomputable def jR_clear (D : sm_D) (M : sm_M) : Option sm_S :=
  (sm_wr (sm_up M 1 0 (0 : Int32)) (fun N1 => (sm_wr (sm_up N1 1 38 (0 : Int32)) (fun N2 => (sm_wr (sm_up N2 1 39 (0 : Int32)) (fun N3 => (sm_bo (0 : Int32) (sm_wr (sm_up N3 1 37 (0 : Int32)) (fun N4 => (sm_bi (jR_restart D N4) (fun x5 E5 M5 => sm_dq E5 D (some ((0 : Int32), D, M5)))))))))))))
noncomputable def jR_isAsked_18 (s0 : Int32) (D : sm_D) (M : sm_M) : Option sm_S :=
  (sm_bo s0 (some (s0, D, M)))
noncomputable def jR_isAsked_13 (D : sm_D) (M : sm_M) : Option sm_S :=
  (jR_isAsked_18 (1 : Int32) D M)
noncomputable def jR_isAsked (l1 : Int32) (D : sm_D) (M : sm_M) : Option sm_S :=
  (if l1 = (-1 : Int32) then (jR_isAsked_13 D M) else (sm_bi (jR_isMade l1 D M) (fun x1 E1 M1 => sm_dq E1 D (if x1 = (0 : Int32) then (jR_isAsked_18 (0 : Int32) D M1) else (jR_isAsked_13 D M1)))))
noncomputable def jR_block_45 (D : sm_D) (M : sm_M) : Option sm_S :=
  (some ((-1 : Int32), D, M))
noncomputable def jR_block (l1 l2 l3 : Int32) (D : sm_D) (M : sm_M) : Option sm_S :=
  (sm_wr (sm_up M 1 0 (0 : Int32)) (fun N1 => (sm_bi (jR_isAsked l1 D N1) (fun x2 E2 M2 => sm_dq E2 D (if x2 = (0 : Int32) then (jR_block_45 D M2) else (sm_bi (jR_isAsked l2 D M2) (fun x3 E3 M3 => sm_dq E3 D (if x3 = (0 : Int32) then (jR_block_45 D M3) else (sm_bi (jR_isAsked l3 D M3) (fun x4 E4 M4 => sm_dq E4 D (if x4 = (0 : Int32) then (jR_block_45 D M4) else (if (M4 1 37) = (0 : Int32) then (if (M4 1 38) = (40 : Int32) then (jR_block_45 D M4) else (sm_bi (jR_numberOf l1 D M4) (fun x5 E5 M5 => sm_dq E5 D (sm_bi (jR_numberOf l2 D M5) (fun x6 E6 M6 => sm_dq E6 D (sm_bi (jR_numberOf l3 D M6) (fun x7 E7 M7 => sm_dq E7 D (sm_bi (jR_beginBlock (M4 1 38) x5 x6 x7 D M7) (fun x8 E8 M8 => sm_dq E8 D (sm_wr (sm_up M8 1 38 ((M8 1 38) + (1 : Int32))) (fun N9 => (sm_bi (jR_restart D N9) (fun x10 E10 M10 => sm_dq E10 D (some (((M10 1 38) - (1 : Int32)), D, M10))))))))))))))) else (jR_block_45 D M4)))))))))))))
noncomputable def jR_isRegister_15 (s0 : Int32) (D : sm_D) (M : sm_M) : Option sm_S :=
  (sm_bo s0 (some (s0, D, M)))
noncomputable def jR_isRegister_14 (D : sm_D) (M : sm_M) : Option sm_S :=
  (jR_isRegister_15 (0 : Int32) D M)
noncomputable def jR_isRegister (l0 : Int32) (D : sm_D) (M : sm_M) : Option sm_S :=
  (if l0 < (1 : Int32) then (jR_isRegister_14 D M) else (if (5 : Int32) < l0 then (jR_isRegister_14 D M) else (jR_isRegister_15 (1 : Int32) D M)))
noncomputable def jR_isBlock_15 (s0 : Int32) (D : sm_D) (M : sm_M) : Option sm_S :=
  (sm_bo s0 (some (s0, D, M)))
noncomputable def jR_isBlock_14 (D : sm_D) (M : sm_M) : Option sm_S :=
  (jR_isBlock_15 (0 : Int32) D M)
noncomputable def jR_isBlock (l0 : Int32) (D : sm_D) (M : sm_M) : Option sm_S :=
  (if l0 < (0 : Int32) then (jR_isBlock_14 D M) else (if l0 < (40 : Int32) then (jR_isBlock_15 (1 : Int32) D M) else (jR_isBlock_14 D M)))
noncomputable def jR_fits_64 (l2 : Int32) (D : sm_D) (M : sm_M) : Option sm_S :=
  (sm_bi (jR_isRegister l2 D M) (fun x1 E1 M1 => sm_dq E1 D (sm_bo x1 (some (x1, D, M1)))))
noncomputable def jR_fits_96 (s0 : Int32) (D : sm_D) (M : sm_M) : Option sm_S :=
  (sm_bo s0 (some (s0, D, M)))
noncomputable def jR_fits_95 (D : sm_D) (M : sm_M) : Option sm_S :=
  (jR_fits_96 (0 : Int32) D M)
noncomputable def jR_fits_69 (l2 l3 l4 : Int32) (D : sm_D) (M : sm_M) : Option sm_S :=
  (sm_bi (jR_isRegister l2 D M) (fun x1 E1 M1 => sm_dq E1 D (if x1 = (0 : Int32) then (jR_fits_95 D M1) else (sm_bi (jR_isRegister l3 D M1) (fun x2 E2 M2 => sm_dq E2 D (if x2 = (0 : Int32) then (jR_fits_95 D M2) else (sm_bi (jR_isRegister l4 D M2) (fun x3 E3 M3 => sm_dq E3 D (if x3 = (0 : Int32) then (jR_fits_95 D M3) else (jR_fits_96 (1 : Int32) D M3))))))))))
noncomputable def jR_fits_127 (s0 : Int32) (D : sm_D) (M : sm_M) : Option sm_S :=
  (sm_bo s0 (some (s0, D, M)))
noncomputable def jR_fits_122 (D : sm_D) (M : sm_M) : Option sm_S :=
  (jR_fits_127 (1 : Int32) D M)
noncomputable def jR_fits_126 (D : sm_D) (M : sm_M) : Option sm_S :=
  (jR_fits_127 (0 : Int32) D M)
noncomputable def jR_fits_147 (s0 : Int32) (D : sm_D) (M : sm_M) : Option sm_S :=
  (sm_bo s0 (some (s0, D, M)))
noncomputable def jR_fits_146 (D : sm_D) (M : sm_M) : Option sm_S :=
  (jR_fits_147 (0 : Int32) D M)
noncomputable def jR_fits_128 (l2 l3 : Int32) (D : sm_D) (M : sm_M) : Option sm_S :=
  (sm_bi (jR_isRegister l2 D M) (fun x1 E1 M1 => sm_dq E1 D (if x1 = (0 : Int32) then (jR_fits_146 D M1) else (sm_bi (jR_isBlock l3 D M1) (fun x2 E2 M2 => sm_dq E2 D (if x2 = (0 : Int32) then (jR_fits_146 D M2) else (jR_fits_147 (1 : Int32) D M2)))))))
noncomputable def jR_fits_208 (s0 : Int32) (D : sm_D) (M : sm_M) : Option sm_S :=
  (sm_bo s0 (some (s0, D, M)))
noncomputable def jR_fits_203 (D : sm_D) (M : sm_M) : Option sm_S :=
  (jR_fits_208 (1 : Int32) D M)
noncomputable def jR_fits_207 (D : sm_D) (M : sm_M) : Option sm_S :=
  (jR_fits_208 (0 : Int32) D M)
noncomputable def jR_fits (l1 l2 l3 l4 : Int32) (D : sm_D) (M : sm_M) : Option sm_S :=
  (if l1 = (0 : Int32) then (jR_fits_64 l2 D M) else (if l1 = (1 : Int32) then (jR_fits_69 l2 l3 l4 D M) else (if l1 = (2 : Int32) then (jR_fits_69 l2 l3 l4 D M) else (if l1 = (3 : Int32) then (jR_fits_69 l2 l3 l4 D M) else (if l1 = (4 : Int32) then (jR_fits_69 l2 l3 l4 D M) else (if l1 = (5 : Int32) then (sm_bi (jR_isRegister l2 D M) (fun x5 E5 M5 => sm_dq E5 D (if x5 = (0 : Int32) then (jR_fits_126 D M5) else (sm_bi (jR_isRegister l3 D M5) (fun x6 E6 M6 => sm_dq E6 D (if x6 = (0 : Int32) then (jR_fits_126 D M6) else (if l4 = (0 : Int32) then (jR_fits_122 D M6) else (if l4 = (1 : Int32) then (jR_fits_122 D M6) else (jR_fits_126 D M6))))))))) else (if l1 = (6 : Int32) then (jR_fits_128 l2 l3 D M) else (if l1 = (7 : Int32) then (sm_bi (jR_isRegister l2 D M) (fun x2 E2 M2 => sm_dq E2 D (if x2 = (0 : Int32) then (jR_fits_207 D M2) else (sm_bi (jR_isRegister l3 D M2) (fun x3 E3 M3 => sm_dq E3 D (if x3 = (0 : Int32) then (jR_fits_207 D M3) else (sm_bi (jR_isMade l4 D M3) (fun x4 E4 M4 => sm_dq E4 D (if x4 = (0 : Int32) then (jR_fits_207 D M4) else (sm_ck l4 30 (sm_ck (M4 7 (Int32.toNatClampNeg l4)) 3000 (if (M4 2 (Int32.toNatClampNeg (M4 7 (Int32.toNatClampNeg l4)))) = (2 : Int32) then (jR_fits_203 D M4) else (sm_ck l4 30 (sm_ck (M4 7 (Int32.toNatClampNeg l4)) 3000 (if (M4 2 (Int32.toNatClampNeg (M4 7 (Int32.toNatClampNeg l4)))) = (3 : Int32) then (jR_fits_203 D M4) else (jR_fits_207 D M4)))))))))))))))) else (if l1 = (8 : Int32) then (jR_fits_69 l2 l3 l4 D M) else (if l1 = (9 : Int32) then (sm_bi (jR_isBlock l2 D M) (fun x1 E1 M1 => sm_dq E1 D (sm_bo x1 (some (x1, D, M1))))) else (if l1 = (10 : Int32) then (jR_fits_128 l2 l3 D M) else (if l1 = (11 : Int32) then (jR_fits_64 l2 D M) else (sm_bo (1 : Int32) (some ((1 : Int32), D, M)))))))))))))))
noncomputable def jR_add_51 (D : sm_D) (M : sm_M) : Option sm_S :=
  (some ((-1 : Int32), D, M))
noncomputable def jR_add_187 (s1 s2 s3 s4 : Int32) (D : sm_D) (M : sm_M) : Option sm_S :=
  (sm_bi (jR_emit s1 s2 s3 s4 D M) (fun x1 E1 M1 => sm_dq E1 D (sm_bi (jR_restart D M1) (fun x2 E2 M2 => sm_dq E2 D (some ((M2 1 39), D, M2))))))
noncomputable def jR_add_165 (s1 s2 s3 : Int32) (D : sm_D) (M : sm_M) : Option sm_S :=
  (jR_add_187 s1 s2 s3 (0 : Int32) D M)
noncomputable def jR_add_150 (l1 l4 l5 l6 l7 s1 s2 s3 : Int32) (D : sm_D) (M : sm_M) : Option sm_S :=
  (if l5 = (0 : Int32) then (if l6 = (0 : Int32) then (if l7 = (0 : Int32) then (if l1 = (7 : Int32) then (sm_ck l4 30 (jR_add_187 s1 s2 s3 (M 7 (Int32.toNatClampNeg l4)) D M)) else (jR_add_187 s1 s2 s3 l4 D M)) else (jR_add_165 s1 s2 s3 D M)) else (jR_add_165 s1 s2 s3 D M)) else (jR_add_165 s1 s2 s3 D M))
noncomputable def jR_add_145 (l1 l4 l5 l6 l7 s1 s2 : Int32) (D : sm_D) (M : sm_M) : Option sm_S :=
  (jR_add_150 l1 l4 l5 l6 l7 s1 s2 (0 : Int32) D M)
noncomputable def jR_add_135 (l1 l3 l4 l5 l6 l7 s1 s2 : Int32) (D : sm_D) (M : sm_M) : Option sm_S :=
  (if l5 = (0 : Int32) then (if l6 = (0 : Int32) then (jR_add_150 l1 l4 l5 l6 l7 s1 s2 l3 D M) else (jR_add_145 l1 l4 l5 l6 l7 s1 s2 D M)) else (jR_add_145 l1 l4 l5 l6 l7 s1 s2 D M))
noncomputable def jR_add_121 (l1 l2 l3 l4 l5 l6 s0 : Int32) (D : sm_D) (M : sm_M) : Option sm_S :=
  (if l5 = (0 : Int32) then (jR_add_135 l1 l3 l4 l5 l6 s0 l1 l2 D M) else (jR_add_135 l1 l3 l4 l5 l6 s0 l1 (0 : Int32) D M))
noncomputable def jR_add_116 (l1 l2 l3 l4 l5 l6 : Int32) (D : sm_D) (M : sm_M) : Option sm_S :=
  (jR_add_121 l1 l2 l3 l4 l5 l6 (1 : Int32) D M)
noncomputable def jR_add_98 (l1 l2 l3 l4 l5 s0 : Int32) (D : sm_D) (M : sm_M) : Option sm_S :=
  (if l1 = (0 : Int32) then (jR_add_116 l1 l2 l3 l4 l5 s0 D M) else (if l1 = (6 : Int32) then (jR_add_116 l1 l2 l3 l4 l5 s0 D M) else (if l1 = (10 : Int32) then (jR_add_116 l1 l2 l3 l4 l5 s0 D M) else (jR_add_121 l1 l2 l3 l4 l5 s0 (0 : Int32) D M))))
noncomputable def jR_add_93 (l1 l2 l3 l4 l5 : Int32) (D : sm_D) (M : sm_M) : Option sm_S :=
  (jR_add_98 l1 l2 l3 l4 l5 (1 : Int32) D M)
noncomputable def jR_add_79 (l1 l2 l3 l4 s0 : Int32) (D : sm_D) (M : sm_M) : Option sm_S :=
  (if l1 = (9 : Int32) then (jR_add_93 l1 l2 l3 l4 s0 D M) else (if l1 = (11 : Int32) then (jR_add_93 l1 l2 l3 l4 s0 D M) else (jR_add_98 l1 l2 l3 l4 s0 (0 : Int32) D M)))
noncomputable def jR_add (l1 l2 l3 l4 : Int32) (D : sm_D) (M : sm_M) : Option sm_S :=
  (sm_wr (sm_up M 1 0 (0 : Int32)) (fun N1 => (if (N1 1 38) = (0 : Int32) then (jR_add_51 D N1) else (if (N1 1 37) = (0 : Int32) then (if l1 < (0 : Int32) then (jR_add_51 D N1) else (if (12 : Int32) < l1 then (jR_add_51 D N1) else (sm_bi (jR_fits l1 l2 l3 l4 D N1) (fun x2 E2 M2 => sm_dq E2 D (if x2 = (0 : Int32) then (jR_add_51 D M2) else (if (M2 1 39) = (300 : Int32) then (jR_add_51 D M2) else (sm_bo (0 : Int32) (sm_wr (sm_up M2 1 47 (0 : Int32)) (fun N3 => (sm_wr (sm_up N3 1 54 ((N3 1 38) - (1 : Int32))) (fun N4 => (if l1 = (12 : Int32) then (jR_add_79 l1 l2 l3 l4 (1 : Int32) D N4) else (jR_add_79 l1 l2 l3 l4 (0 : Int32) D N4))))))))))))) else (jR_add_51 D N1)))))
noncomputable def jR_isCode_50 (s0 : Int32) (D : sm_D) (M : sm_M) : Option sm_S :=
  (sm_bo s0 (some (s0, D, M)))
noncomputable def jR_isCode_49 (D : sm_D) (M : sm_M) : Option sm_S :=
  (jR_isCode_50 (0 : Int32) D M)
noncomputable def jR_isCode (l1 l2 l3 l4 : Int32) (D : sm_D) (M : sm_M) : Option sm_S :=
  (if l1 < (0 : Int32) then (jR_isCode_49 D M) else (sm_ck l1 3000 (if (M 2 (Int32.toNatClampNeg l1)) = (4 : Int32) then (sm_ck l1 3000 (if (M 3 (Int32.toNatClampNeg l1)) = l2 then (sm_ck l1 3000 (if (M 4 (Int32.toNatClampNeg l1)) = l3 then (sm_ck l1 3000 (if (M 5 (Int32.toNatClampNeg l1)) = l4 then (jR_isCode_50 (1 : Int32) D M) else (jR_isCode_49 D M))) else (jR_isCode_49 D M))) else (jR_isCode_49 D M))) else (jR_isCode_49 D M))))
noncomputable def jR_has_47 (s0 : Int32) (D : sm_D) (M : sm_M) : Option sm_S :=
  (sm_bo s0 (some (s0, D, M)))
noncomputable def jR_has_42 (D : sm_D) (M : sm_M) : Option sm_S :=
  (jR_has_47 (1 : Int32) D M)
noncomputable def jR_has_46 (D : sm_D) (M : sm_M) : Option sm_S :=
  (jR_has_47 (0 : Int32) D M)
noncomputable def jR_has_28 (l3 : Int32) (D : sm_D) (M : sm_M) : Option sm_S :=
  (if l3 < (0 : Int32) then (jR_has_42 D M) else (sm_ck (3 : Int32) 6 (if (M 53 (Int32.toNatClampNeg (3 : Int32))) = l3 then (jR_has_42 D M) else (jR_has_46 D M))))
noncomputable def jR_has_14 (l2 l3 : Int32) (D : sm_D) (M : sm_M) : Option sm_S :=
  (if l2 < (0 : Int32) then (jR_has_28 l3 D M) else (sm_ck (2 : Int32) 6 (if (M 53 (Int32.toNatClampNeg (2 : Int32))) = l2 then (jR_has_28 l3 D M) else (jR_has_46 D M))))
noncomputable def jR_has (l1 l2 l3 : Int32) (D : sm_D) (M : sm_M) : Option sm_S :=
  (if l1 < (0 : Int32) then (jR_has_14 l2 l3 D M) else (sm_ck (1 : Int32) 6 (if (M 53 (Int32.toNatClampNeg (1 : Int32))) = l1 then (jR_has_14 l2 l3 D M) else (jR_has_46 D M))))
noncomputable def jR_hasBlock_48 (s0 : Int32) (D : sm_D) (M : sm_M) : Option sm_S :=
  (sm_bo s0 (some (s0, D, M)))
noncomputable def jR_hasBlock_47 (D : sm_D) (M : sm_M) : Option sm_S :=
  (jR_hasBlock_48 (0 : Int32) D M)
noncomputable def jR_hasBlock (l1 : Int32) (D : sm_D) (M : sm_M) : Option sm_S :=
  (if l1 < (M 1 38) then (sm_ck ((3 : Int32) * l1) 123 (sm_ck (((3 : Int32) * l1) + (1 : Int32)) 123 (sm_ck (((3 : Int32) * l1) + (2 : Int32)) 123 (sm_bi (jR_has (M 35 (Int32.toNatClampNeg ((3 : Int32) * l1))) (M 35 (Int32.toNatClampNeg (((3 : Int32) * l1) + (1 : Int32)))) (M 35 (Int32.toNatClampNeg (((3 : Int32) * l1) + (2 : Int32)))) D M) (fun x1 E1 M1 => sm_dq E1 D (if x1 = (0 : Int32) then (jR_hasBlock_47 D M1) else (jR_hasBlock_48 (1 : Int32) D M1))))))) else (jR_hasBlock_47 D M))
noncomputable def jR_wraps_14 (D : sm_D) (M : sm_M) : Option sm_S :=
  (sm_bo (0 : Int32) (some ((0 : Int32), D, M)))
noncomputable def jR_wraps_87 (s0 : Int32) (D : sm_D) (M : sm_M) : Option sm_S :=
  (sm_bo s0 (some (s0, D, M)))
noncomputable def jR_wraps (l1 l2 : Int32) (D : sm_D) (M : sm_M) : Option sm_S :=
  (if l1 < (0 : Int32) then (jR_wraps_14 D M) else (sm_ck l1 3000 (if (M 2 (Int32.toNatClampNeg l1)) = (1 : Int32) then (sm_ck l2 3000 (if (M 2 (Int32.toNatClampNeg l2)) = (2 : Int32) then (sm_ck l1 3000 (sm_ck l1 3000 (sm_ck l2 3000 (sm_ck l2 3000 (sm_bi (jR_find (3 : Int32) (M 4 (Int32.toNatClampNeg l2)) (-1 : Int32) (-1 : Int32) D M) (fun x2 E2 M2 => sm_dq E2 D (sm_bi (jR_isCode (M 3 (Int32.toNatClampNeg l1)) (M 4 (Int32.toNatClampNeg l1)) (M 3 (Int32.toNatClampNeg l2)) x2 D M2) (fun x3 E3 M3 => sm_dq E3 D (jR_wraps_87 x3 D M3))))))))) else (sm_ck l1 3000 (sm_ck l1 3000 (sm_ck l2 3000 (sm_bi (jR_isCode (M 3 (Int32.toNatClampNeg l1)) (M 4 (Int32.toNatClampNeg l1)) (M 3 (Int32.toNatClampNeg l2)) (-1 : Int32) D M) (fun x1 E1 M1 => sm_dq E1 D (jR_wraps_87 x1 D M1)))))))) else (jR_wraps_14 D M))))
noncomputable def jR_opens_36 (D : sm_D) (M : sm_M) : Option sm_S :=
  (sm_bo (0 : Int32) (some ((0 : Int32), D, M)))
noncomputable def jR_opens_93 (l1 l3 s1 s3 s4 s5 s6 : Int32) (D : sm_D) (M : sm_M) : Option sm_S :=
  (sm_bi (jR_find s3 s4 s5 s6 D M) (fun x1 E1 M1 => sm_dq E1 D (sm_ck s1 6 (sm_wr (sm_up M1 53 (Int32.toNatClampNeg s1) x1) (fun N2 => (sm_ck l1 301 (sm_ck (N2 31 (Int32.toNatClampNeg l1)) 6 (sm_wr (sm_up N2 53 (Int32.toNatClampNeg (N2 31 (Int32.toNatClampNeg l1))) l3) (fun N3 => (sm_bo (1 : Int32) (some ((1 : Int32), D, N3))))))))))))
noncomputable def jR_opens_38 (l1 l2 : Int32) (D : sm_D) (M : sm_M) : Option sm_S :=
  (sm_bi (jR_find (5 : Int32) (-1 : Int32) (-1 : Int32) (-1 : Int32) D M) (fun x1 E1 M1 => sm_dq E1 D (sm_ck l1 301 (sm_ck l2 3000 (sm_ck l2 3000 (if (M1 2 (Int32.toNatClampNeg l2)) = (2 : Int32) then (sm_ck l2 3000 (sm_bi (jR_find (3 : Int32) (M1 4 (Int32.toNatClampNeg l2)) (-1 : Int32) (-1 : Int32) D M1) (fun x2 E2 M2 => sm_dq E2 D (jR_opens_93 l1 x1 (M1 30 (Int32.toNatClampNeg l1)) (4 : Int32) x1 (M1 3 (Int32.toNatClampNeg l2)) x2 D M2)))) else (jR_opens_93 l1 x1 (M1 30 (Int32.toNatClampNeg l1)) (4 : Int32) x1 (M1 3 (Int32.toNatClampNeg l2)) (-1 : Int32) D M1)))))))
noncomputable def jR_opens (l1 : Int32) (D : sm_D) (M : sm_M) : Option sm_S :=
  (sm_ck l1 301 (sm_ck (M 32 (Int32.toNatClampNeg l1)) 6 (if (M 53 (Int32.toNatClampNeg (M 32 (Int32.toNatClampNeg l1)))) < (0 : Int32) then (jR_opens_36 D M) else (sm_ck (M 53 (Int32.toNatClampNeg (M 32 (Int32.toNatClampNeg l1)))) 3000 (if (M 2 (Int32.toNatClampNeg (M 53 (Int32.toNatClampNeg (M 32 (Int32.toNatClampNeg l1)))))) = (2 : Int32) then (jR_opens_38 l1 (M 53 (Int32.toNatClampNeg (M 32 (Int32.toNatClampNeg l1)))) D M) else (sm_ck (M 53 (Int32.toNatClampNeg (M 32 (Int32.toNatClampNeg l1)))) 3000 (if (M 2 (Int32.toNatClampNeg (M 53 (Int32.toNatClampNeg (M 32 (Int32.toNatClampNeg l1)))))) = (3 : Int32) then (jR_opens_38 l1 (M 53 (Int32.toNatClampNeg (M 32 (Int32.toNatClampNeg l1)))) D M) else (jR_opens_36 D M))))))))
noncomputable def jR_isRight_120 (D : sm_D) (M : sm_M) : Option sm_S :=
  (sm_bo (0 : Int32) (some ((0 : Int32), D, M)))
noncomputable def jR_isRight_101 (l2 l3 l4 : Int32) (D : sm_D) (M : sm_M) : Option sm_S :=
  (sm_ck l3 6 (if (M 53 (Int32.toNatClampNeg l3)) = (0 : Int32) then (sm_ck l4 6 (if (M 53 (Int32.toNatClampNeg l4)) = (0 : Int32) then (sm_ck l2 6 (sm_wr (sm_up M 53 (Int32.toNatClampNeg l2) (0 : Int32)) (fun N1 => (sm_bo (1 : Int32) (some ((1 : Int32), D, N1)))))) else (jR_isRight_120 D M))) else (jR_isRight_120 D M)))
noncomputable def jR_isRight_150 (D : sm_D) (M : sm_M) : Option sm_S :=
  (sm_bo (0 : Int32) (some ((0 : Int32), D, M)))
noncomputable def jR_isRight_203 (D : sm_D) (M : sm_M) : Option sm_S :=
  (sm_bo (0 : Int32) (some ((0 : Int32), D, M)))
noncomputable def jR_isRight_240 (s1 s2 : Int32) (D : sm_D) (M : sm_M) : Option sm_S :=
  (sm_ck s1 6 (sm_wr (sm_up M 53 (Int32.toNatClampNeg s1) s2) (fun N1 => (sm_bo (1 : Int32) (some ((1 : Int32), D, N1))))))
noncomputable def jR_isRight_355 (s0 : Int32) (D : sm_D) (M : sm_M) : Option sm_S :=
  (sm_bo s0 (some (s0, D, M)))
noncomputable def jR_isRight_354 (D : sm_D) (M : sm_M) : Option sm_S :=
  (jR_isRight_355 (0 : Int32) D M)
noncomputable def jR_isRight_425 (s0 : Int32) (D : sm_D) (M : sm_M) : Option sm_S :=
  (sm_bo s0 (some (s0, D, M)))
noncomputable def jR_isRight_424 (D : sm_D) (M : sm_M) : Option sm_S :=
  (jR_isRight_425 (0 : Int32) D M)
noncomputable def jR_isRight_440 (s0 : Int32) (D : sm_D) (M : sm_M) : Option sm_S :=
  (sm_bo s0 (some (s0, D, M)))
noncomputable def jR_isRight (l1 : Int32) (D : sm_D) (M : sm_M) : Option sm_S :=
  (sm_ck l1 301 (sm_ck l1 301 (sm_ck l1 301 (sm_ck l1 301 (if (M 29 (Int32.toNatClampNeg l1)) = (0 : Int32) then (sm_ck (M 30 (Int32.toNatClampNeg l1)) 6 (sm_wr (sm_up M 53 (Int32.toNatClampNeg (M 30 (Int32.toNatClampNeg l1))) (0 : Int32)) (fun N11 => (sm_bo (1 : Int32) (some ((1 : Int32), D, N11)))))) else (if (M 29 (Int32.toNatClampNeg l1)) = (1 : Int32) then (jR_isRight_101 (M 30 (Int32.toNatClampNeg l1)) (M 31 (Int32.toNatClampNeg l1)) (M 32 (Int32.toNatClampNeg l1)) D M) else (if (M 29 (Int32.toNatClampNeg l1)) = (2 : Int32) then (jR_isRight_101 (M 30 (Int32.toNatClampNeg l1)) (M 31 (Int32.toNatClampNeg l1)) (M 32 (Int32.toNatClampNeg l1)) D M) else (if (M 29 (Int32.toNatClampNeg l1)) = (3 : Int32) then (jR_isRight_101 (M 30 (Int32.toNatClampNeg l1)) (M 31 (Int32.toNatClampNeg l1)) (M 32 (Int32.toNatClampNeg l1)) D M) else (if (M 29 (Int32.toNatClampNeg l1)) = (4 : Int32) then (sm_ck (M 31 (Int32.toNatClampNeg l1)) 6 (if (M 53 (Int32.toNatClampNeg (M 31 (Int32.toNatClampNeg l1)))) < (0 : Int32) then (jR_isRight_150 D M) else (sm_ck (M 32 (Int32.toNatClampNeg l1)) 6 (if (M 53 (Int32.toNatClampNeg (M 32 (Int32.toNatClampNeg l1)))) < (0 : Int32) then (jR_isRight_150 D M) else (sm_ck (M 31 (Int32.toNatClampNeg l1)) 6 (sm_ck (M 32 (Int32.toNatClampNeg l1)) 6 (sm_bi (jR_find (1 : Int32) (M 53 (Int32.toNatClampNeg (M 31 (Int32.toNatClampNeg l1)))) (M 53 (Int32.toNatClampNeg (M 32 (Int32.toNatClampNeg l1)))) (-1 : Int32) D M) (fun x9 E9 M9 => sm_dq E9 D (sm_ck (M 30 (Int32.toNatClampNeg l1)) 6 (sm_wr (sm_up M9 53 (Int32.toNatClampNeg (M 30 (Int32.toNatClampNeg l1))) x9) (fun N10 => (sm_bo (1 : Int32) (some ((1 : Int32), D, N10)))))))))))))) else (if (M 29 (Int32.toNatClampNeg l1)) = (5 : Int32) then (sm_ck (M 31 (Int32.toNatClampNeg l1)) 6 (if (M 53 (Int32.toNatClampNeg (M 31 (Int32.toNatClampNeg l1)))) < (0 : Int32) then (jR_isRight_203 D M) else (sm_ck (M 31 (Int32.toNatClampNeg l1)) 6 (sm_ck (M 53 (Int32.toNatClampNeg (M 31 (Int32.toNatClampNeg l1)))) 3000 (if (M 2 (Int32.toNatClampNeg (M 53 (Int32.toNatClampNeg (M 31 (Int32.toNatClampNeg l1)))))) = (1 : Int32) then (if (M 32 (Int32.toNatClampNeg l1)) = (0 : Int32) then (sm_ck (M 31 (Int32.toNatClampNeg l1)) 6 (sm_ck (M 53 (Int32.toNatClampNeg (M 31 (Int32.toNatClampNeg l1)))) 3000 (jR_isRight_240 (M 30 (Int32.toNatClampNeg l1)) (M 3 (Int32.toNatClampNeg (M 53 (Int32.toNatClampNeg (M 31 (Int32.toNatClampNeg l1)))))) D M))) else (sm_ck (M 31 (Int32.toNatClampNeg l1)) 6 (sm_ck (M 53 (Int32.toNatClampNeg (M 31 (Int32.toNatClampNeg l1)))) 3000 (jR_isRight_240 (M 30 (Int32.toNatClampNeg l1)) (M 4 (Int32.toNatClampNeg (M 53 (Int32.toNatClampNeg (M 31 (Int32.toNatClampNeg l1)))))) D M)))) else (jR_isRight_203 D M)))))) else (if (M 29 (Int32.toNatClampNeg l1)) = (6 : Int32) then (if (M 31 (Int32.toNatClampNeg l1)) < (M 1 38) then (sm_ck ((3 : Int32) * (M 31 (Int32.toNatClampNeg l1))) 123 (sm_ck (((3 : Int32) * (M 31 (Int32.toNatClampNeg l1))) + (1 : Int32)) 123 (sm_ck (((3 : Int32) * (M 31 (Int32.toNatClampNeg l1))) + (2 : Int32)) 123 (sm_bi (jR_find (4 : Int32) (M 35 (Int32.toNatClampNeg ((3 : Int32) * (M 31 (Int32.toNatClampNeg l1))))) (M 35 (Int32.toNatClampNeg (((3 : Int32) * (M 31 (Int32.toNatClampNeg l1))) + (1 : Int32)))) (M 35 (Int32.toNatClampNeg (((3 : Int32) * (M 31 (Int32.toNatClampNeg l1))) + (2 : Int32)))) D M) (fun x7 E7 M7 => sm_dq E7 D (sm_ck (M 30 (Int32.toNatClampNeg l1)) 6 (sm_wr (sm_up M7 53 (Int32.toNatClampNeg (M 30 (Int32.toNatClampNeg l1))) x7) (fun N8 => (sm_bo (1 : Int32) (some ((1 : Int32), D, N8))))))))))) else (sm_bo (0 : Int32) (some ((0 : Int32), D, M)))) else (if (M 29 (Int32.toNatClampNeg l1)) = (7 : Int32) then (sm_ck (M 31 (Int32.toNatClampNeg l1)) 6 (sm_bi (jR_wraps (M 53 (Int32.toNatClampNeg (M 31 (Int32.toNatClampNeg l1)))) (M 32 (Int32.toNatClampNeg l1)) D M) (fun x5 E5 M5 => sm_dq E5 D (if x5 = (0 : Int32) then (sm_bo (0 : Int32) (some ((0 : Int32), D, M5))) else (sm_ck (M 30 (Int32.toNatClampNeg l1)) 6 (sm_wr (sm_up M5 53 (Int32.toNatClampNeg (M 30 (Int32.toNatClampNeg l1))) (M 32 (Int32.toNatClampNeg l1))) (fun N6 => (sm_bo (1 : Int32) (some ((1 : Int32), D, N6)))))))))) else (if (M 29 (Int32.toNatClampNeg l1)) = (8 : Int32) then (sm_bi (jR_opens l1 D M) (fun x4 E4 M4 => sm_dq E4 D (sm_bo x4 (some (x4, D, M4))))) else (if (M 29 (Int32.toNatClampNeg l1)) = (9 : Int32) then (sm_bi (jR_hasBlock (M 30 (Int32.toNatClampNeg l1)) D M) (fun x3 E3 M3 => sm_dq E3 D (sm_bo x3 (some (x3, D, M3))))) else (if (M 29 (Int32.toNatClampNeg l1)) = (10 : Int32) then (sm_ck (M 30 (Int32.toNatClampNeg l1)) 6 (if (M 53 (Int32.toNatClampNeg (M 30 (Int32.toNatClampNeg l1)))) = (0 : Int32) then (sm_bi (jR_hasBlock (M 31 (Int32.toNatClampNeg l1)) D M) (fun x2 E2 M2 => sm_dq E2 D (if x2 = (0 : Int32) then (jR_isRight_354 D M2) else (jR_isRight_355 (1 : Int32) D M2)))) else (jR_isRight_354 D M))) else (if (M 29 (Int32.toNatClampNeg l1)) = (11 : Int32) then (sm_ck (M 30 (Int32.toNatClampNeg l1)) 6 (if (M 53 (Int32.toNatClampNeg (M 30 (Int32.toNatClampNeg l1)))) < (0 : Int32) then (jR_isRight_424 D M) else (sm_ck (M 30 (Int32.toNatClampNeg l1)) 6 (sm_ck (M 53 (Int32.toNatClampNeg (M 30 (Int32.toNatClampNeg l1)))) 3000 (if (M 2 (Int32.toNatClampNeg (M 53 (Int32.toNatClampNeg (M 30 (Int32.toNatClampNeg l1)))))) = (4 : Int32) then (sm_ck (M 30 (Int32.toNatClampNeg l1)) 6 (sm_ck (M 53 (Int32.toNatClampNeg (M 30 (Int32.toNatClampNeg l1)))) 3000 (sm_ck (M 30 (Int32.toNatClampNeg l1)) 6 (sm_ck (M 53 (Int32.toNatClampNeg (M 30 (Int32.toNatClampNeg l1)))) 3000 (sm_ck (M 30 (Int32.toNatClampNeg l1)) 6 (sm_ck (M 53 (Int32.toNatClampNeg (M 30 (Int32.toNatClampNeg l1)))) 3000 (sm_bi (jR_has (M 3 (Int32.toNatClampNeg (M 53 (Int32.toNatClampNeg (M 30 (Int32.toNatClampNeg l1)))))) (M 4 (Int32.toNatClampNeg (M 53 (Int32.toNatClampNeg (M 30 (Int32.toNatClampNeg l1)))))) (M 5 (Int32.toNatClampNeg (M 53 (Int32.toNatClampNeg (M 30 (Int32.toNatClampNeg l1)))))) D M) (fun x1 E1 M1 => sm_dq E1 D (if x1 = (0 : Int32) then (jR_isRight_424 D M1) else (jR_isRight_425 (1 : Int32) D M1)))))))))) else (jR_isRight_424 D M)))))) else (sm_ck (2 : Int32) 6 (if (M 53 (Int32.toNatClampNeg (2 : Int32))) = (0 : Int32) then (jR_isRight_440 (1 : Int32) D M) else (jR_isRight_440 (0 : Int32) D M)))))))))))))))))))
noncomputable def jR_isEnd_23 (s0 : Int32) (D : sm_D) (M : sm_M) : Option sm_S :=
  (sm_bo s0 (some (s0, D, M)))
noncomputable def jR_isEnd_18 (D : sm_D) (M : sm_M) : Option sm_S :=
  (jR_isEnd_23 (1 : Int32) D M)
noncomputable def jR_isEnd (l0 : Int32) (D : sm_D) (M : sm_M) : Option sm_S :=
  (if l0 = (9 : Int32) then (jR_isEnd_18 D M) else (if l0 = (11 : Int32) then (jR_isEnd_18 D M) else (if l0 = (12 : Int32) then (jR_isEnd_18 D M) else (jR_isEnd_23 (0 : Int32) D M))))
noncomputable def jR_checkBlock_34 (l1 l2 s1 s2 : Int32) (D : sm_D) (M : sm_M) : Option ((Int32 × Int32 × sm_M) ⊕ sm_S) :=
  (sm_ck s1 6 (sm_wr (sm_up M 53 (Int32.toNatClampNeg s1) s2) (fun N1 => (sm_dq D D (some (.inl (l1, (l2 + (1 : Int32)), N1)))))))
noncomputable def jR_checkBlock_93 (l2 : Int32) (D : sm_D) (M : sm_M) : Option sm_S :=
  (some (l2, D, M))
noncomputable def jR_checkBlock_78 (l1 l2 : Int32) (D : sm_D) (M : sm_M) : Option ((Int32 × Int32 × sm_M) ⊕ sm_S) :=
  (sm_ck l1 41 (sm_bi (jR_isRight ((M 33 (Int32.toNatClampNeg l1)) + l2) D M) (fun x1 E1 M1 => sm_dq E1 D (if x1 = (0 : Int32) then (sm_inr (jR_checkBlock_93 l2 D M1)) else (sm_dq D D (some (.inl (l1, (l2 + (1 : Int32)), M1))))))))
noncomputable def jR_checkBlock_146 (s0 : Int32) (D : sm_D) (M : sm_M) : Option sm_S :=
  (some (s0, D, M))
noncomputable def jR_checkBlock_140 (l1 : Int32) (D : sm_D) (M : sm_M) : Option sm_S :=
  (sm_ck l1 41 (jR_checkBlock_146 (M 34 (Int32.toNatClampNeg l1)) D M))
noncomputable def jR_checkBlock_43_c (l1 l2 : Int32) (D : sm_D) (M : sm_M) : Option ((Int32 × Int32 × sm_M) ⊕ sm_S) :=
  (sm_ck l1 41 (if l2 < (M 34 (Int32.toNatClampNeg l1)) then (if (0 : Int32) < l2 then (sm_ck l1 41 (sm_ck (((M 33 (Int32.toNatClampNeg l1)) + l2) - (1 : Int32)) 301 (sm_bi (jR_isEnd (M 29 (Int32.toNatClampNeg (((M 33 (Int32.toNatClampNeg l1)) + l2) - (1 : Int32)))) D M) (fun x2 E2 M2 => sm_dq E2 D (if x2 = (0 : Int32) then (sm_dq D D (jR_checkBlock_78 l1 l2 D M2)) else (sm_inr (jR_checkBlock_93 l2 D M2))))))) else (sm_dq D D (jR_checkBlock_78 l1 l2 D M))) else (sm_ck l1 41 (if (0 : Int32) < (M 34 (Int32.toNatClampNeg l1)) then (sm_ck l1 41 (sm_ck l1 41 (sm_ck (((M 33 (Int32.toNatClampNeg l1)) + (M 34 (Int32.toNatClampNeg l1))) - (1 : Int32)) 301 (sm_bi (jR_isEnd (M 29 (Int32.toNatClampNeg (((M 33 (Int32.toNatClampNeg l1)) + (M 34 (Int32.toNatClampNeg l1))) - (1 : Int32)))) D M) (fun x1 E1 M1 => sm_dq E1 D (if x1 = (0 : Int32) then (sm_inr (jR_checkBlock_140 l1 D M1)) else (sm_inr (jR_checkBlock_146 (-1 : Int32) D M1)))))))) else (sm_inr (jR_checkBlock_140 l1 D M))))))
noncomputable def jR_checkBlock_43_b (D : sm_D) (s : Int32 × Int32 × sm_M) : Option ((Int32 × Int32 × sm_M) ⊕ sm_S) := jR_checkBlock_43_c s.1 s.2.1 D s.2.2
noncomputable def jR_checkBlock_43 (l1 l2 : Int32) (D : sm_D) (M : sm_M) : Option sm_S := sm_lp (jR_checkBlock_43_b D) (l1, l2, M)
noncomputable def jR_checkBlock_2_c (l1 l2 : Int32) (D : sm_D) (M : sm_M) : Option ((Int32 × Int32 × sm_M) ⊕ sm_S) :=
  (if l2 < (6 : Int32) then (if l2 < (4 : Int32) then (sm_ck ((((3 : Int32) * l1) + l2) - (1 : Int32)) 123 (sm_dq D D (jR_checkBlock_34 l1 l2 l2 (M 35 (Int32.toNatClampNeg ((((3 : Int32) * l1) + l2) - (1 : Int32)))) D M))) else (sm_dq D D (jR_checkBlock_34 l1 l2 l2 (-1 : Int32) D M))) else (sm_inr (jR_checkBlock_43 l1 (0 : Int32) D M)))
noncomputable def jR_checkBlock_2_b (D : sm_D) (s : Int32 × Int32 × sm_M) : Option ((Int32 × Int32 × sm_M) ⊕ sm_S) := jR_checkBlock_2_c s.1 s.2.1 D s.2.2
noncomputable def jR_checkBlock_2 (l1 l2 : Int32) (D : sm_D) (M : sm_M) : Option sm_S := sm_lp (jR_checkBlock_2_b D) (l1, l2, M)
noncomputable def jR_checkBlock (l1 : Int32) (D : sm_D) (M : sm_M) : Option sm_S :=
  (jR_checkBlock_2 l1 (1 : Int32) D M)
noncomputable def jR_check_39 (D : sm_D) (M : sm_M) : Option sm_S :=
  (some ((0 : Int32), D, M))
noncomputable def jR_check_86 (l1 l3 s0 : Int32) (D : sm_D) (M : sm_M) : Option ((Int32 × Int32 × Int32 × sm_M) ⊕ sm_S) :=
  (sm_wr (sm_up M 1 1 l1) (fun N1 => (sm_dq D D (some (.inl (l1, s0, (l3 + (1 : Int32)), N1))))))
noncomputable def jR_check_98 (l2 : Int32) (D : sm_D) (M : sm_M) : Option sm_S :=
  (some (l2, D, M))
noncomputable def jR_check_50_c (l1 l2 l3 : Int32) (D : sm_D) (M : sm_M) : Option ((Int32 × Int32 × Int32 × sm_M) ⊕ sm_S) :=
  (if l3 < (M 1 38) then (if l2 < (0 : Int32) then (sm_bi (jR_checkBlock l3 D M) (fun x1 E1 M1 => sm_dq E1 D (if x1 < (0 : Int32) then (sm_dq D D (jR_check_86 l1 l3 (-1 : Int32) D M1)) else (sm_dq D D (jR_check_86 l1 l3 (((1000 : Int32) * l3) + x1) D M1))))) else (sm_inr (jR_check_98 l2 D M))) else (sm_inr (jR_check_98 l2 D M)))
noncomputable def jR_check_50_b (D : sm_D) (s : Int32 × Int32 × Int32 × sm_M) : Option ((Int32 × Int32 × Int32 × sm_M) ⊕ sm_S) := jR_check_50_c s.1 s.2.1 s.2.2.1 D s.2.2.2
noncomputable def jR_check_50 (l1 l2 l3 : Int32) (D : sm_D) (M : sm_M) : Option sm_S := sm_lp (jR_check_50_b D) (l1, l2, l3, M)
noncomputable def jR_check (D : sm_D) (M : sm_M) : Option sm_S :=
  (sm_wr (sm_up M 1 0 (0 : Int32)) (fun N1 => (if (N1 1 38) = (0 : Int32) then (jR_check_39 D N1) else (sm_ck (0 : Int32) 123 (if (0 : Int32) < (N1 35 (Int32.toNatClampNeg (0 : Int32))) then (jR_check_39 D N1) else (sm_ck (1 : Int32) 123 (if (N1 35 (Int32.toNatClampNeg (1 : Int32))) < (0 : Int32) then (sm_ck (2 : Int32) 123 (if (N1 35 (Int32.toNatClampNeg (2 : Int32))) < (0 : Int32) then (jR_check_50 (N1 1 1) (-1 : Int32) (0 : Int32) D N1) else (jR_check_39 D N1))) else (jR_check_39 D N1))))))))
noncomputable def jR_instruction_17 (D : sm_D) (M : sm_M) : Option sm_S :=
  (some ((-1 : Int32), D, M))
noncomputable def jR_instruction_100 (s0 : Int32) (D : sm_D) (M : sm_M) : Option sm_S :=
  (some (s0, D, M))
noncomputable def jR_instruction (l1 l2 : Int32) (D : sm_D) (M : sm_M) : Option sm_S :=
  (sm_wr (sm_up M 1 0 (0 : Int32)) (fun N1 => (if l1 < (0 : Int32) then (jR_instruction_17 D N1) else (if l1 < (N1 1 39) then (if l2 = (0 : Int32) then (sm_ck l1 301 (jR_instruction_100 (N1 29 (Int32.toNatClampNeg l1)) D N1)) else (if l2 = (1 : Int32) then (sm_ck l1 301 (jR_instruction_100 (N1 30 (Int32.toNatClampNeg l1)) D N1)) else (if l2 = (2 : Int32) then (sm_ck l1 301 (jR_instruction_100 (N1 31 (Int32.toNatClampNeg l1)) D N1)) else (if l2 = (3 : Int32) then (sm_ck l1 301 (if (N1 29 (Int32.toNatClampNeg l1)) = (7 : Int32) then (sm_ck l1 301 (sm_ck (N1 32 (Int32.toNatClampNeg l1)) 3000 (jR_instruction_100 (N1 6 (Int32.toNatClampNeg (N1 32 (Int32.toNatClampNeg l1)))) D N1))) else (sm_ck l1 301 (jR_instruction_100 (N1 32 (Int32.toNatClampNeg l1)) D N1)))) else (jR_instruction_100 (-1 : Int32) D N1))))) else (jR_instruction_17 D N1)))))
noncomputable def jR_look_26 (D : sm_D) (M : sm_M) : Option sm_S :=
  (some ((-1 : Int32), D, M))
noncomputable def jR_look_71 (s0 : Int32) (D : sm_D) (M : sm_M) : Option sm_S :=
  (some (s0, D, M))
noncomputable def jR_look (l1 l2 : Int32) (D : sm_D) (M : sm_M) : Option sm_S :=
  (sm_wr (sm_up M 1 0 (0 : Int32)) (fun N1 => (if l1 < (0 : Int32) then (jR_look_26 D N1) else (if l1 < (N1 1 38) then (if l2 < (0 : Int32) then (jR_look_26 D N1) else (if (4 : Int32) < l2 then (jR_look_26 D N1) else (if l2 = (0 : Int32) then (sm_ck l1 41 (jR_look_71 (N1 33 (Int32.toNatClampNeg l1)) D N1)) else (if l2 = (1 : Int32) then (sm_ck l1 41 (jR_look_71 (N1 34 (Int32.toNatClampNeg l1)) D N1)) else (sm_ck ((((3 : Int32) * l1) + l2) - (2 : Int32)) 123 (sm_bi (jR_sizeOf (N1 35 (Int32.toNatClampNeg ((((3 : Int32) * l1) + l2) - (2 : Int32)))) D N1) (fun x2 E2 M2 => sm_dq E2 D (jR_look_71 x2 D M2)))))))) else (jR_look_26 D N1)))))
noncomputable def jR_put (l1 l2 l3 : Int32) (D : sm_D) (M : sm_M) : Option sm_S :=
  (sm_ck l1 6 (sm_wr (sm_up M 47 (Int32.toNatClampNeg l1) l2) (fun N1 => (sm_ck l1 6 (sm_wr (sm_up N1 48 (Int32.toNatClampNeg l1) l3) (fun N2 => (some ((0 : Int32), D, N2))))))))
noncomputable def jR_go (l1 : Int32) (D : sm_D) (M : sm_M) : Option sm_S :=
  (if l1 < (M 1 38) then (sm_ck l1 41 (sm_wr (sm_up M 1 67 (M 33 (Int32.toNatClampNeg l1))) (fun N1 => (sm_ck l1 41 (sm_ck l1 41 (sm_wr (sm_up N1 1 68 ((N1 33 (Int32.toNatClampNeg l1)) + (N1 34 (Int32.toNatClampNeg l1)))) (fun N2 => (sm_bo (1 : Int32) (some ((1 : Int32), D, N2)))))))))) else (sm_bo (0 : Int32) (some ((0 : Int32), D, M))))
noncomputable def jR_calculate_21 (D : sm_D) (M : sm_M) : Option sm_S :=
  (sm_bo (0 : Int32) (some ((0 : Int32), D, M)))
noncomputable def jR_calculate (l1 l2 l3 l4 : Int32) (D : sm_D) (M : sm_M) : Option sm_S :=
  (sm_ck l3 6 (if (M 47 (Int32.toNatClampNeg l3)) = (1 : Int32) then (sm_ck l4 6 (if (M 47 (Int32.toNatClampNeg l4)) = (1 : Int32) then (sm_ck l3 6 (sm_ck l4 6 (sm_bi (jR_result (l1 + (1 : Int32)) (M 48 (Int32.toNatClampNeg l3)) (M 48 (Int32.toNatClampNeg l4)) D M) (fun x1 E1 M1 => sm_dq E1 D (sm_bi (jR_put l2 (1 : Int32) x1 D M1) (fun x2 E2 M2 => sm_dq E2 D (sm_bo (1 : Int32) (some ((1 : Int32), D, M2))))))))) else (jR_calculate_21 D M))) else (jR_calculate_21 D M)))
noncomputable def jR_newPair_18 (D : sm_D) (M : sm_M) : Option sm_S :=
  (sm_bo (0 : Int32) (some ((0 : Int32), D, M)))
noncomputable def jR_newPair (l1 l2 l3 : Int32) (D : sm_D) (M : sm_M) : Option sm_S :=
  (sm_ck l2 6 (if (M 47 (Int32.toNatClampNeg l2)) = (0 : Int32) then (jR_newPair_18 D M) else (sm_ck l3 6 (if (M 47 (Int32.toNatClampNeg l3)) = (0 : Int32) then (jR_newPair_18 D M) else (if (M 1 69) = (400 : Int32) then (sm_wr (sm_up M 1 66 (3 : Int32)) (fun N7 => (sm_bo (0 : Int32) (some ((0 : Int32), D, N7))))) else (sm_ck l2 6 (sm_ck (M 1 69) 400 (sm_wr (sm_up M 49 (Int32.toNatClampNeg (M 1 69)) (M 47 (Int32.toNatClampNeg l2))) (fun N1 => (sm_ck l2 6 (sm_ck (N1 1 69) 400 (sm_wr (sm_up N1 50 (Int32.toNatClampNeg (N1 1 69)) (N1 48 (Int32.toNatClampNeg l2))) (fun N2 => (sm_ck l3 6 (sm_ck (N2 1 69) 400 (sm_wr (sm_up N2 51 (Int32.toNatClampNeg (N2 1 69)) (N2 47 (Int32.toNatClampNeg l3))) (fun N3 => (sm_ck l3 6 (sm_ck (N3 1 69) 400 (sm_wr (sm_up N3 52 (Int32.toNatClampNeg (N3 1 69)) (N3 48 (Int32.toNatClampNeg l3))) (fun N4 => (sm_wr (sm_up N4 1 69 ((N4 1 69) + (1 : Int32))) (fun N5 => (sm_bi (jR_put l1 (3 : Int32) ((N5 1 69) - (1 : Int32)) D N5) (fun x6 E6 M6 => sm_dq E6 D (sm_bo (1 : Int32) (some ((1 : Int32), D, M6))))))))))))))))))))))))))))
noncomputable def jR_open_29 (D : sm_D) (M : sm_M) : Option sm_S :=
  (sm_bo (0 : Int32) (some ((0 : Int32), D, M)))
noncomputable def jR_open (l1 l2 l3 : Int32) (D : sm_D) (M : sm_M) : Option sm_S :=
  (sm_ck l3 6 (sm_ck l3 6 (if (M 47 (Int32.toNatClampNeg l3)) = (4 : Int32) then (sm_ck (M 48 (Int32.toNatClampNeg l3)) 400 (if (M 49 (Int32.toNatClampNeg (M 48 (Int32.toNatClampNeg l3)))) = (2 : Int32) then (sm_ck (M 48 (Int32.toNatClampNeg l3)) 400 (sm_bi (jR_put l1 (2 : Int32) (M 50 (Int32.toNatClampNeg (M 48 (Int32.toNatClampNeg l3)))) D M) (fun x1 E1 M1 => sm_dq E1 D (sm_ck (M 48 (Int32.toNatClampNeg l3)) 400 (sm_ck (M 48 (Int32.toNatClampNeg l3)) 400 (sm_bi (jR_put l2 (M1 51 (Int32.toNatClampNeg (M 48 (Int32.toNatClampNeg l3)))) (M1 52 (Int32.toNatClampNeg (M 48 (Int32.toNatClampNeg l3)))) D M1) (fun x2 E2 M2 => sm_dq E2 D (sm_bo (1 : Int32) (some ((1 : Int32), D, M2)))))))))) else (jR_open_29 D M))) else (jR_open_29 D M))))
noncomputable def jR_doIt_105 (l1 l2 l3 l4 : Int32) (D : sm_D) (M : sm_M) : Option sm_S :=
  (sm_ck l1 301 (sm_bi (jR_calculate (M 29 (Int32.toNatClampNeg l1)) l2 l3 l4 D M) (fun x1 E1 M1 => sm_dq E1 D (sm_bo x1 (some (x1, D, M1))))))
noncomputable def jR_doIt_195 (s1 s2 s3 : Int32) (D : sm_D) (M : sm_M) : Option sm_S :=
  (sm_bi (jR_put s1 s2 s3 D M) (fun x1 E1 M1 => sm_dq E1 D (sm_bo (1 : Int32) (some ((1 : Int32), D, M1)))))
noncomputable def jR_doIt_173 (l4 l5 s1 s2 : Int32) (D : sm_D) (M : sm_M) : Option sm_S :=
  (if l4 = (0 : Int32) then (sm_ck l5 400 (jR_doIt_195 s1 s2 (M 50 (Int32.toNatClampNeg l5)) D M)) else (sm_ck l5 400 (jR_doIt_195 s1 s2 (M 52 (Int32.toNatClampNeg l5)) D M)))
noncomputable def jR_doIt_282 (s0 : Int32) (D : sm_D) (M : sm_M) : Option sm_S :=
  (sm_bo s0 (some (s0, D, M)))
noncomputable def jR_doIt_277 (D : sm_D) (M : sm_M) : Option sm_S :=
  (jR_doIt_282 (1 : Int32) D M)
noncomputable def jR_doIt_281 (D : sm_D) (M : sm_M) : Option sm_S :=
  (jR_doIt_282 (0 : Int32) D M)
noncomputable def jR_doIt_311 (s0 : Int32) (D : sm_D) (M : sm_M) : Option sm_S :=
  (sm_bo s0 (some (s0, D, M)))
noncomputable def jR_doIt_310 (D : sm_D) (M : sm_M) : Option sm_S :=
  (jR_doIt_311 (0 : Int32) D M)
noncomputable def jR_doIt (l1 : Int32) (D : sm_D) (M : sm_M) : Option sm_S :=
  (sm_ck l1 301 (sm_ck l1 301 (sm_ck l1 301 (sm_wr (sm_up M 1 67 (l1 + (1 : Int32))) (fun N1 => (sm_ck l1 301 (if (N1 29 (Int32.toNatClampNeg l1)) = (0 : Int32) then (sm_bi (jR_put (M 30 (Int32.toNatClampNeg l1)) (1 : Int32) (M 31 (Int32.toNatClampNeg l1)) D N1) (fun x10 E10 M10 => sm_dq E10 D (sm_bo (1 : Int32) (some ((1 : Int32), D, M10))))) else (if (N1 29 (Int32.toNatClampNeg l1)) = (1 : Int32) then (jR_doIt_105 l1 (M 30 (Int32.toNatClampNeg l1)) (M 31 (Int32.toNatClampNeg l1)) (M 32 (Int32.toNatClampNeg l1)) D N1) else (if (N1 29 (Int32.toNatClampNeg l1)) = (2 : Int32) then (jR_doIt_105 l1 (M 30 (Int32.toNatClampNeg l1)) (M 31 (Int32.toNatClampNeg l1)) (M 32 (Int32.toNatClampNeg l1)) D N1) else (if (N1 29 (Int32.toNatClampNeg l1)) = (3 : Int32) then (jR_doIt_105 l1 (M 30 (Int32.toNatClampNeg l1)) (M 31 (Int32.toNatClampNeg l1)) (M 32 (Int32.toNatClampNeg l1)) D N1) else (if (N1 29 (Int32.toNatClampNeg l1)) = (4 : Int32) then (sm_bi (jR_newPair (M 30 (Int32.toNatClampNeg l1)) (M 31 (Int32.toNatClampNeg l1)) (M 32 (Int32.toNatClampNeg l1)) D N1) (fun x9 E9 M9 => sm_dq E9 D (sm_bo x9 (some (x9, D, M9))))) else (if (N1 29 (Int32.toNatClampNeg l1)) = (5 : Int32) then (sm_ck (M 31 (Int32.toNatClampNeg l1)) 6 (sm_ck (M 31 (Int32.toNatClampNeg l1)) 6 (if (N1 47 (Int32.toNatClampNeg (M 31 (Int32.toNatClampNeg l1)))) = (3 : Int32) then (if (M 32 (Int32.toNatClampNeg l1)) = (0 : Int32) then (sm_ck (N1 48 (Int32.toNatClampNeg (M 31 (Int32.toNatClampNeg l1)))) 400 (jR_doIt_173 (M 32 (Int32.toNatClampNeg l1)) (N1 48 (Int32.toNatClampNeg (M 31 (Int32.toNatClampNeg l1)))) (M 30 (Int32.toNatClampNeg l1)) (N1 49 (Int32.toNatClampNeg (N1 48 (Int32.toNatClampNeg (M 31 (Int32.toNatClampNeg l1)))))) D N1)) else (sm_ck (N1 48 (Int32.toNatClampNeg (M 31 (Int32.toNatClampNeg l1)))) 400 (jR_doIt_173 (M 32 (Int32.toNatClampNeg l1)) (N1 48 (Int32.toNatClampNeg (M 31 (Int32.toNatClampNeg l1)))) (M 30 (Int32.toNatClampNeg l1)) (N1 51 (Int32.toNatClampNeg (N1 48 (Int32.toNatClampNeg (M 31 (Int32.toNatClampNeg l1)))))) D N1))) else (sm_bo (0 : Int32) (some ((0 : Int32), D, N1)))))) else (if (N1 29 (Int32.toNatClampNeg l1)) = (6 : Int32) then (sm_bi (jR_put (M 30 (Int32.toNatClampNeg l1)) (2 : Int32) (M 31 (Int32.toNatClampNeg l1)) D N1) (fun x8 E8 M8 => sm_dq E8 D (sm_bo (1 : Int32) (some ((1 : Int32), D, M8))))) else (if (N1 29 (Int32.toNatClampNeg l1)) = (7 : Int32) then (sm_ck (M 31 (Int32.toNatClampNeg l1)) 6 (if (N1 47 (Int32.toNatClampNeg (M 31 (Int32.toNatClampNeg l1)))) = (3 : Int32) then (sm_ck (M 31 (Int32.toNatClampNeg l1)) 6 (sm_bi (jR_put (M 30 (Int32.toNatClampNeg l1)) (4 : Int32) (N1 48 (Int32.toNatClampNeg (M 31 (Int32.toNatClampNeg l1)))) D N1) (fun x7 E7 M7 => sm_dq E7 D (sm_bo (1 : Int32) (some ((1 : Int32), D, M7)))))) else (sm_bo (0 : Int32) (some ((0 : Int32), D, N1))))) else (if (N1 29 (Int32.toNatClampNeg l1)) = (8 : Int32) then (sm_bi (jR_open (M 30 (Int32.toNatClampNeg l1)) (M 31 (Int32.toNatClampNeg l1)) (M 32 (Int32.toNatClampNeg l1)) D N1) (fun x6 E6 M6 => sm_dq E6 D (sm_bo x6 (some (x6, D, M6))))) else (if (N1 29 (Int32.toNatClampNeg l1)) = (9 : Int32) then (sm_bi (jR_go (M 30 (Int32.toNatClampNeg l1)) D N1) (fun x5 E5 M5 => sm_dq E5 D (sm_bo x5 (some (x5, D, M5))))) else (if (N1 29 (Int32.toNatClampNeg l1)) = (10 : Int32) then (sm_ck (M 30 (Int32.toNatClampNeg l1)) 6 (if (N1 47 (Int32.toNatClampNeg (M 30 (Int32.toNatClampNeg l1)))) = (1 : Int32) then (sm_ck (M 30 (Int32.toNatClampNeg l1)) 6 (if (N1 48 (Int32.toNatClampNeg (M 30 (Int32.toNatClampNeg l1)))) = (0 : Int32) then (jR_doIt_277 D N1) else (sm_bi (jR_go (M 31 (Int32.toNatClampNeg l1)) D N1) (fun x4 E4 M4 => sm_dq E4 D (if x4 = (0 : Int32) then (jR_doIt_281 D M4) else (jR_doIt_277 D M4)))))) else (jR_doIt_281 D N1))) else (if (N1 29 (Int32.toNatClampNeg l1)) = (11 : Int32) then (sm_ck (M 30 (Int32.toNatClampNeg l1)) 6 (if (N1 47 (Int32.toNatClampNeg (M 30 (Int32.toNatClampNeg l1)))) = (2 : Int32) then (sm_ck (M 30 (Int32.toNatClampNeg l1)) 6 (sm_bi (jR_go (N1 48 (Int32.toNatClampNeg (M 30 (Int32.toNatClampNeg l1)))) D N1) (fun x3 E3 M3 => sm_dq E3 D (if x3 = (0 : Int32) then (jR_doIt_310 D M3) else (jR_doIt_311 (1 : Int32) D M3))))) else (jR_doIt_310 D N1))) else (sm_wr (sm_up N1 1 66 (1 : Int32)) (fun N2 => (sm_bo (1 : Int32) (some ((1 : Int32), D, N2)))))))))))))))))))))))
noncomputable def jR_run_16 (D : sm_D) (M : sm_M) : Option sm_S :=
  (some ((-1 : Int32), D, M))
noncomputable def jR_run_132 (l1 l2 s1 : Int32) (D : sm_D) (M : sm_M) : Option ((Int32 × Int32 × sm_M) ⊕ sm_S) :=
  (sm_wr (sm_up M 1 66 s1) (fun N1 => (sm_dq D D (some (.inl (l1, l2, N1))))))
noncomputable def jR_run_124 (l1 l2 : Int32) (D : sm_D) (M : sm_M) : Option ((Int32 × Int32 × sm_M) ⊕ sm_S) :=
  (sm_dq D D (jR_run_132 l1 l2 (M 1 66) D M))
noncomputable def jR_run_107 (l1 l2 l4 s1 : Int32) (D : sm_D) (M : sm_M) : Option ((Int32 × Int32 × sm_M) ⊕ sm_S) :=
  (sm_wr (sm_up M 1 67 s1) (fun N1 => (if l4 = (0 : Int32) then (if (N1 1 66) = (3 : Int32) then (sm_dq D D (jR_run_124 l1 l2 D N1)) else (sm_dq D D (jR_run_132 l1 l2 (2 : Int32) D N1))) else (sm_dq D D (jR_run_124 l1 l2 D N1)))))
noncomputable def jR_run_91 (l1 l3 l4 s0 s1 : Int32) (D : sm_D) (M : sm_M) : Option ((Int32 × Int32 × sm_M) ⊕ sm_S) :=
  (if l4 = (0 : Int32) then (sm_dq D D (jR_run_107 l1 (s0 + s1) l4 l3 D M)) else (sm_dq D D (jR_run_107 l1 (s0 + s1) l4 (M 1 67) D M)))
noncomputable def jR_run_78 (l1 l2 l3 s0 : Int32) (D : sm_D) (M : sm_M) : Option ((Int32 × Int32 × sm_M) ⊕ sm_S) :=
  (if s0 = (0 : Int32) then (sm_dq D D (jR_run_91 l1 l3 s0 l2 (0 : Int32) D M)) else (sm_dq D D (jR_run_91 l1 l3 s0 l2 (1 : Int32) D M)))
noncomputable def jR_run_77 (l1 l2 l3 : Int32) (D : sm_D) (M : sm_M) : Option ((Int32 × Int32 × sm_M) ⊕ sm_S) :=
  (sm_dq D D (jR_run_78 l1 l2 l3 (0 : Int32) D M))
noncomputable def jR_run_52 (l1 l2 : Int32) (D : sm_D) (M : sm_M) : Option ((Int32 × Int32 × sm_M) ⊕ sm_S) :=
  (if (M 1 67) < (M 1 68) then (sm_bi (jR_doIt (M 1 67) D M) (fun x1 E1 M1 => sm_dq E1 D (if x1 = (0 : Int32) then (sm_dq D D (jR_run_77 l1 l2 (M 1 67) D M1)) else (sm_dq D D (jR_run_78 l1 l2 (M 1 67) (1 : Int32) D M1))))) else (sm_dq D D (jR_run_77 l1 l2 (M 1 67) D M)))
noncomputable def jR_run_138 (l2 : Int32) (D : sm_D) (M : sm_M) : Option sm_S :=
  (some (l2, D, M))
noncomputable def jR_run_20_c (l1 l2 : Int32) (D : sm_D) (M : sm_M) : Option ((Int32 × Int32 × sm_M) ⊕ sm_S) :=
  (if l2 < l1 then (if (M 1 66) = (0 : Int32) then (if (M 1 68) < (0 : Int32) then (sm_bi (jR_go (0 : Int32) D M) (fun x1 E1 M1 => sm_dq E1 D (if x1 = (0 : Int32) then (sm_wr (sm_up M1 1 68 (0 : Int32)) (fun N2 => (sm_dq D D (jR_run_52 l1 l2 D N2)))) else (sm_dq D D (jR_run_52 l1 l2 D M1))))) else (sm_dq D D (jR_run_52 l1 l2 D M))) else (sm_inr (jR_run_138 l2 D M))) else (sm_inr (jR_run_138 l2 D M)))
noncomputable def jR_run_20_b (D : sm_D) (s : Int32 × Int32 × sm_M) : Option ((Int32 × Int32 × sm_M) ⊕ sm_S) := jR_run_20_c s.1 s.2.1 D s.2.2
noncomputable def jR_run_20 (l1 l2 : Int32) (D : sm_D) (M : sm_M) : Option sm_S := sm_lp (jR_run_20_b D) (l1, l2, M)
noncomputable def jR_run (l1 : Int32) (D : sm_D) (M : sm_M) : Option sm_S :=
  (sm_wr (sm_up M 1 0 (0 : Int32)) (fun N1 => (if l1 < (0 : Int32) then (jR_run_16 D N1) else (if (1000 : Int32) < l1 then (jR_run_16 D N1) else (jR_run_20 l1 (0 : Int32) D N1)))))
noncomputable def jR_state (D : sm_D) (M : sm_M) : Option sm_S :=
  (sm_wr (sm_up M 1 0 (0 : Int32)) (fun N1 => (some ((N1 1 66), D, N1))))
noncomputable def jR_register_21 (D : sm_D) (M : sm_M) : Option sm_S :=
  (some ((-1 : Int32), D, M))
noncomputable def jR_register_42 (s0 : Int32) (D : sm_D) (M : sm_M) : Option sm_S :=
  (some (s0, D, M))
noncomputable def jR_register (l1 l2 : Int32) (D : sm_D) (M : sm_M) : Option sm_S :=
  (sm_wr (sm_up M 1 0 (0 : Int32)) (fun N1 => (sm_bi (jR_isRegister l1 D N1) (fun x2 E2 M2 => sm_dq E2 D (if x2 = (0 : Int32) then (jR_register_21 D M2) else (if l2 < (0 : Int32) then (jR_register_21 D M2) else (if (1 : Int32) < l2 then (jR_register_21 D M2) else (if l2 = (0 : Int32) then (sm_ck l1 6 (jR_register_42 (M2 47 (Int32.toNatClampNeg l1)) D M2)) else (sm_ck l1 6 (jR_register_42 (M2 48 (Int32.toNatClampNeg l1)) D M2))))))))))
