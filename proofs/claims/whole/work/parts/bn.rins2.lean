/-! the check, the reference's side: any instruction; blocks -/
section
variable {Bm M : sm_M} {LM0 LR : List Ty} {h i N nB nC n s l : Nat} {W : Nat → Ty} {A : Nat → Option Ty} {R : Nat → Option Ty} {x y z : Int32} {o1 o2 o3 : Option Ty} {t : Ty}
theorem r_reck (hX : rX Bm LM0 h i N LR R M) (ha : reg5 (Bm 30 i)) (hb : reg5 (Bm 31 i)) (hc : reg5 (Bm 32 i)) (hS : ∀ R', pS nB W A (Bm 29) (Bm 30) (Bm 31) (Bm 32) h i R R' ↔ (R (xN (Bm 31) i) = some tyN ∧ R (xN (Bm 32) i) = some tyN ∧ R' = rg R (xN (Bm 30) i) (some tyN))) : rR Bm LM0 h i N nB W A R (jR_isRight_101 (Bm 30 i) (Bm 31 i) (Bm 32 i) [] M) := by
  obtain ⟨ka, ha1, ha2, ha3⟩ := reg_at ha
  obtain ⟨kb, hb1, hb2, hb3⟩ := reg_at hb
  obtain ⟨kc, hc1, hc2, hc3⟩ := reg_at hc
  have xa : xN (Bm 30) i = ka := ha3
  have xb : xN (Bm 31) i = kb := hb3
  have xc : xN (Bm 32) i = kc := hc3
  have b0 := hX.is0 (hX.r1 hb1)
  have c0 := hX.is0 (hX.r1 hc1)
  unfold jR_isRight_101 jR_isRight_120
  simp only [sm_wr]
  rw [ha3, hb3, hc3, ha2, hb2, hc2, ck_nI (by omega) (by decide), ck_nI (by omega) (by decide), ck_nI (by omega) (by decide), bo_1, bo_0]
  by_cases g1 : M 53 kb = 0
  · by_cases g2 : M 53 kc = 0
    · rw [if_pos g1, if_pos g2]
      refine Or.inl ⟨rg R ka (some tyN), LR, _, rfl, (hS _).mpr ⟨by rw [xb]; exact b0.mp g1, by rw [xc]; exact c0.mp g2, by rw [xa]⟩, (hX.rgs hX.tn).next.mono (by omega)⟩
    · rw [if_pos g1, if_neg g2]
      exact rR_no hX rfl (fun R' q => g2 (c0.mpr (by rw [← xc]; exact ((hS R').mp q).2.1)))
  · rw [if_neg g1]
    exact rR_no hX rfl (fun R' q => g1 (b0.mpr (by rw [← xb]; exact ((hS R').mp q).1)))
theorem r_ins (hC : rC Bm LM0 nB nC W A) (hi : i < nC) (hX : rX Bm LM0 h i N LR R M) (hN : N + 3 ≤ 3000) : rR Bm LM0 h i N nB W A R (jR_isRight (nI i) [] M) := by
  obtain ⟨hC300, hB40, h38, hrow, hA⟩ := id hC
  obtain ⟨r7, rf⟩ := hrow i hi
  have hT := hX.1.1
  have nd := hT.2.2.1
  have ki : ∀ {ρ : Type} {q : Option ρ}, sm_ck (nI i) 301 q = q := ck_nI (by omega) (by decide)
  have ci : (nI i).toNatClampNeg = i := nI_clamp (by omega)
  have e1 : M 29 i = Bm 29 i := by rw [hX.1.2.2.1 29 (by decide) (by decide)]
  have e2 : M 30 i = Bm 30 i := by rw [hX.1.2.2.1 30 (by decide) (by decide)]
  have e3 : M 31 i = Bm 31 i := by rw [hX.1.2.2.1 31 (by decide) (by decide)]
  have e4 : M 32 i = Bm 32 i := by rw [hX.1.2.2.1 32 (by decide) (by decide)]
  have m38 : M 1 38 = nI nB := by rw [hX.1.2.2.2 38 (by decide)]; exact h38
  have e35 : M 35 = Bm 35 := hX.1.2.2.1 35 (by decide) (by decide)
  have k6 : ∀ {x : Int32}, reg5 x → ∀ {ρ : Type} {q : Option ρ}, sm_ck x 6 q = q := fun hx => by
    obtain ⟨k, hk, e, -⟩ := reg_at hx
    rw [e]
    exact ck_nI (by omega) (by decide)
  unfold jR_isRight
  simp only [ki, ci, e1, e2, e3, e4, sm_wr]
  rcases rf with ⟨ho, ha⟩ | ⟨ho, ha, hb, hc⟩ | ⟨ho, ha, hb, hc⟩ | ⟨ho, ha, hb⟩ | ⟨ho, ha, hb⟩ | ⟨ho, ha⟩ | ⟨ho, ha, hb⟩ | ⟨ho, ha⟩ | ho
  · obtain ⟨ka, ha1, ha2, ha3⟩ := reg_at ha
    have xa : xN (Bm 30) i = ka := ha3
    rw [ho, if_pos rfl, k6 ha, ha3, bo_1]
    exact Or.inl ⟨rg R ka (some tyN), LR, _, rfl, (pS_0 ho).mpr (by rw [xa]), (hX.rgs hX.tn).next.mono (by omega)⟩
  · rcases ho with ho | ho | ho | ho | ho
    · rw [ho, if_neg (show ¬ (1 : Int32) = 0 by decide), if_pos rfl]
      exact r_reck hX ha hb hc (fun R' => pS_1 ho)
    · rw [ho, if_neg (show ¬ (2 : Int32) = 0 by decide), if_neg (show ¬ (2 : Int32) = 1 by decide), if_pos rfl]
      exact r_reck hX ha hb hc (fun R' => pS_2 ho)
    · rw [ho, if_neg (show ¬ (3 : Int32) = 0 by decide), if_neg (show ¬ (3 : Int32) = 1 by decide), if_neg (show ¬ (3 : Int32) = 2 by decide), if_pos rfl]
      exact r_reck hX ha hb hc (fun R' => pS_3 ho)
    · obtain ⟨ka, ha1, ha2, ha3⟩ := reg_at ha
      obtain ⟨kb, hb1, hb2, hb3⟩ := reg_at hb
      obtain ⟨kc, hc1, hc2, hc3⟩ := reg_at hc
      have xa : xN (Bm 30) i = ka := ha3
      have xb : xN (Bm 31) i = kb := hb3
      have xc : xN (Bm 32) i = kc := hc3
      have mb := ty_pr.neg hX.lt (hX.r1 hb1)
      have mc := ty_pr.neg hX.lt (hX.r1 hc1)
      rw [ho, if_neg (show ¬ (4 : Int32) = 0 by decide), if_neg (show ¬ (4 : Int32) = 1 by decide), if_neg (show ¬ (4 : Int32) = 2 by decide), if_neg (show ¬ (4 : Int32) = 3 by decide), if_pos rfl]
      simp only [k6 ha, k6 hb, k6 hc, ha3, hb3, hc3]
      unfold jR_isRight_150
      by_cases g1 : M 53 kb < 0
      · rw [if_pos g1, bo_0]
        refine rR_no hX rfl (fun R' q => ?_)
        obtain ⟨t, u, q1, -⟩ := (pS_4 ho).mp q
        rw [xb, mb.mp g1] at q1
        cases q1
      · by_cases g2 : M 53 kc < 0
        · rw [if_neg g1, if_pos g2, bo_0]
          refine rR_no hX rfl (fun R' q => ?_)
          obtain ⟨t, u, -, q2, -⟩ := (pS_4 ho).mp q
          rw [xc, mc.mp g2] at q2
          cases q2
        · obtain ⟨t, ht⟩ : ∃ t, R kb = some t := by
            cases hR : R kb with
            | none => exact absurd (mb.mpr hR) g1
            | some t => exact ⟨t, rfl⟩
          obtain ⟨u, hu⟩ : ∃ u, R kc = some u := by
            cases hR : R kc with
            | none => exact absurd (mc.mpr hR) g2
            | some t => exact ⟨t, rfl⟩
          have pb := hX.r1 hb1
          have pc := hX.r1 hc1
          rw [ht] at pb
          rw [hu] at pc
          obtain ⟨w, K, M', f1, f2, f3⟩ := r_fd (D := []) (n := 1) (z := -1) (o3 := none) hX (by decide) pb pc (Or.inl ⟨rfl, rfl⟩) (by omega)
          have f1' : jR_find 1 (M 53 kb) (M 53 kc) (-1) [] M = some (w, [], M') := f1
          rw [if_neg g1, if_neg g2, f1', bi_some, dq_self]
          exact Or.inl ⟨rg R ka (some (tyP t u)), LR ++ K, _, bo_1, (pS_4 ho).mpr ⟨t, u, by rw [xb]; exact ht, by rw [xc]; exact hu, by rw [xa]⟩, (f3.rgs f2).next.mono (by omega)⟩
    · rw [ho, if_neg (show ¬ (8 : Int32) = 0 by decide), if_neg (show ¬ (8 : Int32) = 1 by decide), if_neg (show ¬ (8 : Int32) = 2 by decide), if_neg (show ¬ (8 : Int32) = 3 by decide), if_neg (show ¬ (8 : Int32) = 4 by decide), if_neg (show ¬ (8 : Int32) = 5 by decide), if_neg (show ¬ (8 : Int32) = 6 by decide), if_neg (show ¬ (8 : Int32) = 7 by decide), if_pos rfl]
      rcases r_open (nB := nB) (W := W) (A := A) hX (by omega) hN ho ha hb hc with ⟨R', LR', M', j1, j2, j3⟩ | ⟨LR', M', j1, j2, j3⟩
      · rw [j1, bi_some, dq_self, bo_1]
        exact Or.inl ⟨R', LR', M', rfl, j2, j3⟩
      · rw [j1, bi_some, dq_self, bo_0]
        exact Or.inr ⟨LR', M', rfl, j2, j3⟩
  · obtain ⟨ka, ha1, ha2, ha3⟩ := reg_at ha
    obtain ⟨kb, hb1, hb2, hb3⟩ := reg_at hb
    have xa : xN (Bm 30) i = ka := ha3
    have xb : xN (Bm 31) i = kb := hb3
    have pb := hX.r1 hb1
    have mb := ty_pr.neg hX.lt pb
    rw [ho, if_neg (show ¬ (5 : Int32) = 0 by decide), if_neg (show ¬ (5 : Int32) = 1 by decide), if_neg (show ¬ (5 : Int32) = 2 by decide), if_neg (show ¬ (5 : Int32) = 3 by decide), if_neg (show ¬ (5 : Int32) = 4 by decide), if_pos rfl]
    simp only [k6 hb, hb3]
    unfold jR_isRight_203 jR_isRight_240
    simp only [sm_wr, k6 ha, ha3]
    cases hRb : R kb with
    | none =>
      rw [if_pos (mb.mpr hRb), bo_0]
      refine rR_no hX rfl (fun R' q => ?_)
      obtain ⟨q1, q2, q3, e, -⟩ := (pS_5 ho).mp q
      rw [xb, hRb] at e
      cases e
    | some t =>
      rw [hRb] at pb
      obtain ⟨j, ej, hj3, hn, cj, kj, hj, hk⟩ := r_at hT pb
      have k1 : M 2 j = (1 : Int32) ↔ ∃ a1 a2 a3, t = ty_mk 1 a1 a2 a3 := hk 1 (by decide)
      rw [if_neg hn]
      simp only [kj, cj]
      by_cases g1 : M 2 j = 1
      · obtain ⟨a1, a2, a3, rfl⟩ := k1.mp g1
        obtain ⟨-, -, p1, p2, p3⟩ := hT.row hj
        rw [if_pos g1]
        by_cases gc : Bm 32 i = 0
        · rw [if_pos gc]
          exact Or.inl ⟨rg R ka a1, LR, _, bo_1, (pS_5 ho).mpr ⟨a1, a2, a3, by rw [xb]; exact hRb, by rw [xa, if_pos gc]⟩, (hX.rgs p1).next.mono (by omega)⟩
        · rw [if_neg gc]
          exact Or.inl ⟨rg R ka a2, LR, _, bo_1, (pS_5 ho).mpr ⟨a1, a2, a3, by rw [xb]; exact hRb, by rw [xa, if_neg gc]⟩, (hX.rgs p2).next.mono (by omega)⟩
      · rw [if_neg g1, bo_0]
        refine rR_no hX rfl (fun R' q => ?_)
        obtain ⟨q1, q2, q3, e, -⟩ := (pS_5 ho).mp q
        rw [xb, hRb] at e
        exact g1 (k1.mpr ⟨_, _, _, Option.some.inj e⟩)
  · obtain ⟨ka, ha1, ha2, ha3⟩ := reg_at ha
    have xa : xN (Bm 30) i = ka := ha3
    obtain ⟨n, hn, hb2⟩ := hb
    rw [ho, if_neg (show ¬ (6 : Int32) = 0 by decide), if_neg (show ¬ (6 : Int32) = 1 by decide), if_neg (show ¬ (6 : Int32) = 2 by decide), if_neg (show ¬ (6 : Int32) = 3 by decide), if_neg (show ¬ (6 : Int32) = 4 by decide), if_neg (show ¬ (6 : Int32) = 5 by decide), if_pos rfl, hb2, m38]
    by_cases g : n < nB
    · have n1 : nI (3 * n) + 1 = nI (3 * n + 1) := nI_1 _
      have n2 : nI (3 * n) + 2 = nI (3 * n + 2) := nI_add (3 * n) 2
      obtain ⟨w, K, M', f1, f2, f3⟩ := r_fd (D := []) (n := 4) hX (by decide) (hX.up0 (hA (3 * n) (by omega))) (hX.up0 (hA (3 * n + 1) (by omega))) (hX.up0 (hA (3 * n + 2) (by omega))) (by omega)
      have f1' : jR_find 4 (Bm 35 (3 * n)) (Bm 35 (3 * n + 1)) (Bm 35 (3 * n + 2)) [] M = some (w, [], M') := f1
      rw [if_pos (nI_lt g (by omega)), nI_3, n1, n2, ck_nI (by omega) (by decide), ck_nI (by omega) (by decide), ck_nI (by omega) (by decide), nI_clamp (by omega), nI_clamp (by omega), nI_clamp (by omega), e35, f1', bi_some, dq_self, k6 ha, ha3]
      exact Or.inl ⟨rg R ka (some (ty_mk 4 (A (3 * n)) (A (3 * n + 1)) (A (3 * n + 2)))), LR ++ K, _, bo_1, (pS_6 ho).mpr ⟨n, g, hb2, by rw [xa]⟩, (f3.rgs f2).next.mono (by omega)⟩
    · rw [if_neg (nI_nlt (by omega) (by omega)), bo_0]
      refine rR_no hX rfl (fun R' z => ?_)
      obtain ⟨n', q1, q2, -⟩ := (pS_6 ho).mp z
      have : n = n' := nI_inj (by omega) (by omega) (hb2.symm.trans q2)
      omega
  · obtain ⟨ka, ha1, ha2, ha3⟩ := reg_at ha
    obtain ⟨kb, hb1, hb2, hb3⟩ := reg_at hb
    have xa : xN (Bm 30) i = ka := ha3
    have xb : xN (Bm 31) i = kb := hb3
    obtain ⟨w7, wk⟩ := r7 ho
    have pw' := hX.up0 w7
    rw [ho, if_neg (show ¬ (7 : Int32) = 0 by decide), if_neg (show ¬ (7 : Int32) = 1 by decide), if_neg (show ¬ (7 : Int32) = 2 by decide), if_neg (show ¬ (7 : Int32) = 3 by decide), if_neg (show ¬ (7 : Int32) = 4 by decide), if_neg (show ¬ (7 : Int32) = 5 by decide), if_neg (show ¬ (7 : Int32) = 6 by decide), if_pos rfl, k6 hb, hb3]
    simp only [k6 ha, ha3]
    obtain ⟨r, K, M', j1, j2, j3⟩ := r_wrap hX (by omega) wk (hX.r1 hb1) pw'
    rw [j1, bi_some, dq_self]
    rcases j3 with ⟨rfl, q, q3, e⟩ | ⟨rfl, hno⟩
    · rw [if_neg (by decide)]
      exact Or.inl ⟨rg R ka (some (W i)), LR ++ K, _, bo_1, (pS_7 ho).mpr ⟨q, q3, by rw [xb]; exact e, by rw [xa]⟩, (j2.rgs pw'.grow).next.mono (by omega)⟩
    · rw [if_pos rfl, bo_0]
      refine Or.inr ⟨LR ++ K, M', rfl, fun R' z => ?_, j2.1⟩
      obtain ⟨q, q3, e, -⟩ := (pS_7 ho).mp z
      rw [xb] at e
      exact hno ⟨q, q3, e⟩
  · rw [ho, if_neg (show ¬ (9 : Int32) = 0 by decide), if_neg (show ¬ (9 : Int32) = 1 by decide), if_neg (show ¬ (9 : Int32) = 2 by decide), if_neg (show ¬ (9 : Int32) = 3 by decide), if_neg (show ¬ (9 : Int32) = 4 by decide), if_neg (show ¬ (9 : Int32) = 5 by decide), if_neg (show ¬ (9 : Int32) = 6 by decide), if_neg (show ¬ (9 : Int32) = 7 by decide), if_neg (show ¬ (9 : Int32) = 8 by decide), if_pos rfl]
    exact rR_look hX (rz_end (r_hasB hC hX ha)) (fun R' => pS_9 ho)
  · obtain ⟨ka, ha1, ha2, ha3⟩ := reg_at ha
    have xa : xN (Bm 30) i = ka := ha3
    have a0 := hX.is0 (hX.r1 ha1)
    have hz := r_hasB hC hX hb
    rw [ho, if_neg (show ¬ (10 : Int32) = 0 by decide), if_neg (show ¬ (10 : Int32) = 1 by decide), if_neg (show ¬ (10 : Int32) = 2 by decide), if_neg (show ¬ (10 : Int32) = 3 by decide), if_neg (show ¬ (10 : Int32) = 4 by decide), if_neg (show ¬ (10 : Int32) = 5 by decide), if_neg (show ¬ (10 : Int32) = 6 by decide), if_neg (show ¬ (10 : Int32) = 7 by decide), if_neg (show ¬ (10 : Int32) = 8 by decide), if_neg (show ¬ (10 : Int32) = 9 by decide), if_pos rfl, k6 ha, ha3]
    unfold jR_isRight_354 jR_isRight_355
    refine rR_look hX (P := R (xN (Bm 30) i) = some tyN ∧ pBl nB A R (Bm 31 i)) ?_ (fun R' => pS_10 ho)
    rw [xa]
    by_cases g1 : M 53 ka = 0
    · rw [if_pos g1]
      by_cases g2 : pBl nB A R (Bm 31 i)
      · rw [hz.1 g2, bi_some, dq_self, if_neg (by decide)]
        exact ⟨fun _ => bo_1, fun q => absurd ⟨a0.mp g1, g2⟩ q⟩
      · rw [hz.2 g2, bi_some, dq_self, if_pos rfl]
        exact ⟨fun q => absurd q.2 g2, fun _ => bo_0⟩
    · rw [if_neg g1]
      exact ⟨fun q => absurd (a0.mpr q.1) g1, fun _ => bo_0⟩
  · obtain ⟨ka, ha1, ha2, ha3⟩ := reg_at ha
    have xa : xN (Bm 30) i = ka := ha3
    have pa := hX.r1 ha1
    have ma := ty_pr.neg hX.lt pa
    rw [ho, if_neg (show ¬ (11 : Int32) = 0 by decide), if_neg (show ¬ (11 : Int32) = 1 by decide), if_neg (show ¬ (11 : Int32) = 2 by decide), if_neg (show ¬ (11 : Int32) = 3 by decide), if_neg (show ¬ (11 : Int32) = 4 by decide), if_neg (show ¬ (11 : Int32) = 5 by decide), if_neg (show ¬ (11 : Int32) = 6 by decide), if_neg (show ¬ (11 : Int32) = 7 by decide), if_neg (show ¬ (11 : Int32) = 8 by decide), if_neg (show ¬ (11 : Int32) = 9 by decide), if_neg (show ¬ (11 : Int32) = 10 by decide), if_pos rfl]
    simp only [k6 ha, ha3]
    unfold jR_isRight_424 jR_isRight_425
    cases hRa : R ka with
    | none =>
      rw [if_pos (ma.mpr hRa), bo_0]
      refine rR_no hX rfl (fun R' q => ?_)
      obtain ⟨q1, q2, q3, e, -⟩ := (pS_11 ho).mp q
      rw [xa, hRa] at e
      cases e
    | some t =>
      rw [hRa] at pa
      obtain ⟨j, ej, hj3, hn, cj, kj, hj, hk⟩ := r_at hT pa
      have k4 : M 2 j = (4 : Int32) ↔ ∃ a1 a2 a3, t = ty_mk 4 a1 a2 a3 := hk 4 (by decide)
      rw [if_neg hn]
      simp only [kj, cj]
      by_cases g1 : M 2 j = 4
      · obtain ⟨a1, a2, a3, rfl⟩ := k4.mp g1
        obtain ⟨-, -, p1, p2, p3⟩ := hT.row hj
        have hz := r_has hX p1 p2 p3
        rw [if_pos g1]
        refine rR_look hX (P := pFit R a1 a2 a3) ?_ (fun R' => (pS_11 ho).trans ⟨fun ⟨x, y, z, f1, f2, f3⟩ => ?_, fun ⟨f1, f2⟩ => ⟨a1, a2, a3, by rw [xa]; exact hRa, f1, f2⟩⟩)
        · by_cases g2 : pFit R a1 a2 a3
          · rw [hz.1 g2, bi_some, dq_self, if_neg (by decide)]
            exact ⟨fun _ => bo_1, fun q => absurd g2 q⟩
          · rw [hz.2 g2, bi_some, dq_self, if_pos rfl]
            exact ⟨fun q => absurd q g2, fun _ => bo_0⟩
        · rw [xa, hRa] at f1
          obtain ⟨-, rfl, rfl, rfl⟩ := ty_mk_inj (Option.some.inj f1)
          exact ⟨f2, f3⟩
      · rw [if_neg g1, bo_0]
        refine rR_no hX rfl (fun R' z => ?_)
        obtain ⟨x, y, zz, f1, -⟩ := (pS_11 ho).mp z
        rw [xa, hRa] at f1
        exact g1 (k4.mpr ⟨_, _, _, Option.some.inj f1⟩)
  · have p2 := hX.is0 (hX.r1 (k := 2) (by decide))
    rw [ho, if_neg (show ¬ (12 : Int32) = 0 by decide), if_neg (show ¬ (12 : Int32) = 1 by decide), if_neg (show ¬ (12 : Int32) = 2 by decide), if_neg (show ¬ (12 : Int32) = 3 by decide), if_neg (show ¬ (12 : Int32) = 4 by decide), if_neg (show ¬ (12 : Int32) = 5 by decide), if_neg (show ¬ (12 : Int32) = 6 by decide), if_neg (show ¬ (12 : Int32) = 7 by decide), if_neg (show ¬ (12 : Int32) = 8 by decide), if_neg (show ¬ (12 : Int32) = 9 by decide), if_neg (show ¬ (12 : Int32) = 10 by decide), if_neg (show ¬ (12 : Int32) = 11 by decide), ck_of (i := 2) (n := 6) ⟨by decide, by decide⟩, show (2 : Int32).toNatClampNeg = 2 from rfl]
    unfold jR_isRight_440
    refine rR_look hX (P := R 2 = some tyN) ?_ (fun R' => pS_12 ho)
    by_cases g1 : M 53 2 = 0
    · rw [if_pos g1]
      exact ⟨fun _ => bo_1, fun q => absurd (p2.mp g1) q⟩
    · rw [if_neg g1]
      exact ⟨fun q => absurd (p2.mpr q) g1, fun _ => bo_0⟩
theorem r_endI (o : Nat → Int32) (i : Nat) : ∃ fl, jR_isEnd (o i) [] M = some (fl, [], M) ∧ ((fl = 1 ∧ pEn o i) ∨ (fl = 0 ∧ ¬ pEn o i)) := by
  unfold jR_isEnd jR_isEnd_18 jR_isEnd_23
  rw [bo_1, bo_0]
  by_cases g1 : o i = 9
  · rw [if_pos g1]; exact ⟨1, rfl, Or.inl ⟨rfl, Or.inl g1⟩⟩
  · by_cases g2 : o i = 11
    · rw [if_neg g1, if_pos g2]; exact ⟨1, rfl, Or.inl ⟨rfl, Or.inr (Or.inl g2)⟩⟩
    · by_cases g3 : o i = 12
      · rw [if_neg g1, if_neg g2, if_pos g3]; exact ⟨1, rfl, Or.inl ⟨rfl, Or.inr (Or.inr g3)⟩⟩
      · rw [if_neg g1, if_neg g2, if_neg g3]
        refine ⟨0, rfl, Or.inr ⟨rfl, fun q => ?_⟩⟩
        rcases q with q | q | q
        · exact g1 q
        · exact g2 q
        · exact g3 q
end
