/-! the machines' instructions, one by one -/
section
variable {nB nP p d1 d3 d4 b k s l i : Nat} {Mc Mm N : sm_M} {kd v w : Int32}
theorem ok_1 : okv nP 1 v := ⟨fun q => absurd q (by decide), fun q => absurd q (by decide)⟩
/-- what the registers hold -/
theorem m_reg (h : rlV nP Mc Mm) {r : Nat} (h1 : 1 ≤ r) (h2 : r ≤ 5) : Mc 34 r = Mm 47 r ∧ Mc 35 r = Mm 48 r ∧ okv nP (Mm 47 r) (Mm 48 r) := h.2.2.2.1 r h1 h2
theorem o_reck {o ra rb rc : Nat} (h : m_ctx p nB nP b k s l i Mc Mm) (ho : o = 1 ∨ o = 2 ∨ o = 3) (ha : ra ≤ 5) (hb : 1 ≤ rb ∧ rb ≤ 5) (hc : 1 ≤ rc ∧ rc ≤ 5) : m_out nB p d1 d3 d4 (jM_reckon (nI o) (nI ra) (nI rb) (nI rc) [p, d1, p, d3, d4] Mc) (jR_calculate (nI o) (nI ra) (nI rb) (nI rc) [] (sm_up Mm 1 67 (nI (i + 1)))) (nI (i + 1)) Mc Mm := by
  obtain ⟨b1, b2, -⟩ := m_reg h.1 hb.1 hb.2
  obtain ⟨c1, c2, -⟩ := m_reg h.1 hc.1 hc.2
  have kb : ∀ {ρ : Type} {q : Option ρ}, sm_ck (nI rb) 6 q = q := ck_nI (by omega) (by decide)
  have kc : ∀ {ρ : Type} {q : Option ρ}, sm_ck (nI rc) 6 q = q := ck_nI (by omega) (by decide)
  have cb : (nI rb).toNatClampNeg = rb := nI_clamp (by omega)
  have cc : (nI rc).toNatClampNeg = rc := nI_clamp (by omega)
  have n47 : sm_up Mm 1 67 (nI (i + 1)) 47 = Mm 47 := up_ne (by decide)
  have n48 : sm_up Mm 1 67 (nI (i + 1)) 48 = Mm 48 := up_ne (by decide)
  have no1 : jM_reckon_21 [p, d1, p, d3, d4] Mc = some (0, [p, d1, p, d3, d4], sm_up Mc 33 10 2) := by
    unfold jM_reckon_21
    rw [m_stop, bi_some, dq_self, bo_0]
  have no2 : jR_calculate_21 [] (sm_up Mm 1 67 (nI (i + 1))) = some (0, [], sm_up Mm 1 67 (nI (i + 1))) := bo_0
  simp only [jM_reckon, jR_calculate, kb, kc, cb, cc, n47, n48, b1, b2, c1, c2]
  by_cases g1 : Mm 47 rb = 1
  · rw [if_pos g1, if_pos g1]
    by_cases g2 : Mm 47 rc = 1
    · rw [if_pos g2, if_pos g2]
      rcases ho with rfl | rfl | rfl
      · rw [if_pos (show nI 1 = 1 from rfl), show jR_result (nI 1 + 1) (Mm 48 rb) (Mm 48 rc) [] (sm_up Mm 1 67 (nI (i + 1))) = some (Mm 48 rb + Mm 48 rc, [], sm_up Mm 1 67 (nI (i + 1))) from rfl, bi_some, dq_self]
        exact (o_put h ha ok_1).cw
      · rw [if_neg (show ¬ nI 2 = 1 by decide), if_pos (show nI 2 = 2 from rfl), show jR_result (nI 2 + 1) (Mm 48 rb) (Mm 48 rc) [] (sm_up Mm 1 67 (nI (i + 1))) = some (Mm 48 rb - Mm 48 rc, [], sm_up Mm 1 67 (nI (i + 1))) from rfl, bi_some, dq_self]
        exact (o_put h ha ok_1).cw
      · rw [if_neg (show ¬ nI 3 = 1 by decide), if_neg (show ¬ nI 3 = 2 by decide), show jR_result (nI 3 + 1) (Mm 48 rb) (Mm 48 rc) [] (sm_up Mm 1 67 (nI (i + 1))) = some (Mm 48 rb * Mm 48 rc, [], sm_up Mm 1 67 (nI (i + 1))) from rfl, bi_some, dq_self]
        exact (o_put h ha ok_1).cw
    · rw [if_neg g2, if_neg g2]
      exact Or.inr (Or.inl ⟨no1, no2⟩)
  · rw [if_neg g1, if_neg g1]
    exact Or.inr (Or.inl ⟨no1, no2⟩)
def nwC (M : sm_M) (n : Nat) (k1 v1 k2 v2 : Int32) : sm_M := sm_up (sm_up (sm_up (sm_up (sm_up M 36 n k1) 37 n v1) 38 n k2) 39 n v2) 33 6 (nI (n + 1))
def nwM (M : sm_M) (n : Nat) (k1 v1 k2 v2 : Int32) : sm_M := sm_up (sm_up (sm_up (sm_up (sm_up M 49 n k1) 50 n v1) 51 n k2) 52 n v2) 1 69 (nI (n + 1))
theorem rlV_new {k1 v1 k2 v2 : Int32} (h : rlV nP Mc Mm) (hn : nP < 400) (o1 : okv nP k1 v1) (o2 : okv nP k2 v2) : rlV (nP + 1) (nwC Mc nP k1 v1 k2 v2) (nwM Mm nP k1 v1 k2 v2) := by
  obtain ⟨a1, a2, a3, a4, a5⟩ := h
  refine ⟨by omega, up_at, up_at, fun j h1 h2 => ?_, fun j hj => ?_⟩
  · have e34 : nwC Mc nP k1 v1 k2 v2 34 = Mc 34 := by unfold nwC; rw [up_ne (by decide), up_ne (by decide), up_ne (by decide), up_ne (by decide), up_ne (by decide)]
    have e35 : nwC Mc nP k1 v1 k2 v2 35 = Mc 35 := by unfold nwC; rw [up_ne (by decide), up_ne (by decide), up_ne (by decide), up_ne (by decide), up_ne (by decide)]
    have e47 : nwM Mm nP k1 v1 k2 v2 47 = Mm 47 := by unfold nwM; rw [up_ne (by decide), up_ne (by decide), up_ne (by decide), up_ne (by decide), up_ne (by decide)]
    have e48 : nwM Mm nP k1 v1 k2 v2 48 = Mm 48 := by unfold nwM; rw [up_ne (by decide), up_ne (by decide), up_ne (by decide), up_ne (by decide), up_ne (by decide)]
    rw [e34, e35, e47, e48]
    obtain ⟨x1, x2, x3⟩ := a4 j h1 h2
    exact ⟨x1, x2, x3.mono (by omega)⟩
  · have e36 : nwC Mc nP k1 v1 k2 v2 36 = upd (Mc 36) nP k1 := by unfold nwC; rw [up_ne (by decide), up_ne (by decide), up_ne (by decide), up_ne (by decide), sm_up_same]
    have e37 : nwC Mc nP k1 v1 k2 v2 37 = upd (Mc 37) nP v1 := by unfold nwC; rw [up_ne (by decide), up_ne (by decide), up_ne (by decide), sm_up_same, up_ne (by decide)]
    have e38 : nwC Mc nP k1 v1 k2 v2 38 = upd (Mc 38) nP k2 := by unfold nwC; rw [up_ne (by decide), up_ne (by decide), sm_up_same, up_ne (by decide), up_ne (by decide)]
    have e39 : nwC Mc nP k1 v1 k2 v2 39 = upd (Mc 39) nP v2 := by unfold nwC; rw [up_ne (by decide), sm_up_same, up_ne (by decide), up_ne (by decide), up_ne (by decide)]
    have e49 : nwM Mm nP k1 v1 k2 v2 49 = upd (Mm 49) nP k1 := by unfold nwM; rw [up_ne (by decide), up_ne (by decide), up_ne (by decide), up_ne (by decide), sm_up_same]
    have e50 : nwM Mm nP k1 v1 k2 v2 50 = upd (Mm 50) nP v1 := by unfold nwM; rw [up_ne (by decide), up_ne (by decide), up_ne (by decide), sm_up_same, up_ne (by decide)]
    have e51 : nwM Mm nP k1 v1 k2 v2 51 = upd (Mm 51) nP k2 := by unfold nwM; rw [up_ne (by decide), up_ne (by decide), sm_up_same, up_ne (by decide), up_ne (by decide)]
    have e52 : nwM Mm nP k1 v1 k2 v2 52 = upd (Mm 52) nP v2 := by unfold nwM; rw [up_ne (by decide), sm_up_same, up_ne (by decide), up_ne (by decide), up_ne (by decide)]
    rw [e36, e37, e38, e39, e49, e50, e51, e52]
    by_cases he : j = nP
    · subst he
      rw [upd_at, upd_at, upd_at, upd_at, upd_at, upd_at, upd_at, upd_at]
      exact ⟨rfl, rfl, rfl, rfl, o1.mono (by omega), o2.mono (by omega)⟩
    · rw [upd_ne he, upd_ne he, upd_ne he, upd_ne he, upd_ne he, upd_ne he, upd_ne he, upd_ne he]
      obtain ⟨x1, x2, x3, x4, x5, x6⟩ := a5 j (by omega)
      exact ⟨x1, x2, x3, x4, x5.mono (by omega), x6.mono (by omega)⟩
theorem o_pair {ra rb rc : Nat} (h : m_ctx p nB nP b k s l i Mc Mm) (ha : ra ≤ 5) (hb : 1 ≤ rb ∧ rb ≤ 5) (hc : 1 ≤ rc ∧ rc ≤ 5) : m_out nB p d1 d3 d4 (jM_pair (nI ra) (nI rb) (nI rc) [p, d1, p, d3, d4] Mc) (jR_newPair (nI ra) (nI rb) (nI rc) [] (sm_up Mm 1 67 (nI (i + 1)))) (nI (i + 1)) Mc Mm := by
  obtain ⟨b1, b2, b3⟩ := m_reg h.1 hb.1 hb.2
  obtain ⟨c1, c2, c3⟩ := m_reg h.1 hc.1 hc.2
  obtain ⟨v1, v2, v3, v4, v5⟩ := h.1
  have kb : ∀ {ρ : Type} {q : Option ρ}, sm_ck (nI rb) 6 q = q := ck_nI (by omega) (by decide)
  have kc : ∀ {ρ : Type} {q : Option ρ}, sm_ck (nI rc) 6 q = q := ck_nI (by omega) (by decide)
  have cb : (nI rb).toNatClampNeg = rb := nI_clamp (by omega)
  have cc : (nI rc).toNatClampNeg = rc := nI_clamp (by omega)
  have n47 : sm_up Mm 1 67 (nI (i + 1)) 47 = Mm 47 := up_ne (by decide)
  have n48 : sm_up Mm 1 67 (nI (i + 1)) 48 = Mm 48 := up_ne (by decide)
  have n69 : sm_up Mm 1 67 (nI (i + 1)) 1 69 = nI nP := by rw [up_as (by decide)]; exact v3
  have no1 : jM_pair_18 [p, d1, p, d3, d4] Mc = some (0, [p, d1, p, d3, d4], sm_up Mc 33 10 2) := by
    unfold jM_pair_18
    rw [m_stop, bi_some, dq_self, bo_0]
  have no2 : jR_newPair_18 [] (sm_up Mm 1 67 (nI (i + 1))) = some (0, [], sm_up Mm 1 67 (nI (i + 1))) := bo_0
  simp only [jM_pair, jR_newPair, sm_wr, kb, kc, cb, cc, n47, b1, c1]
  by_cases g1 : Mm 47 rb = 0
  · rw [if_pos g1, if_pos g1]
    exact Or.inr (Or.inl ⟨no1, no2⟩)
  · rw [if_neg g1, if_neg g1]
    by_cases g2 : Mm 47 rc = 0
    · rw [if_pos g2, if_pos g2]
      exact Or.inr (Or.inl ⟨no1, no2⟩)
    · rw [if_neg g2, if_neg g2, v2, n69]
      by_cases g3 : nI nP = 400
      · rw [if_pos g3, if_pos g3]
        exact Or.inr (Or.inr ⟨by rw [m_stop, bi_some, dq_self, bo_0], by rw [bo_0]⟩)
      · have hn : nP < 400 := by
          by_cases q : nP = 400
          · subst q; exact absurd rfl g3
          · omega
        have kn : ∀ {ρ : Type} {q : Option ρ}, sm_ck (nI nP) 400 q = q := ck_nI hn (by decide)
        have cn : (nI nP).toNatClampNeg = nP := nI_clamp (by omega)
        have u33 : ∀ {M : sm_M} {q j : Nat} {x : Int32}, 33 ≠ q → sm_up M q j x 33 = M 33 := fun h => up_ne h
        have u1 : ∀ {M : sm_M} {q j : Nat} {x : Int32}, 1 ≠ q → sm_up M q j x 1 = M 1 := fun h => up_ne h
        rw [if_neg g3, if_neg g3]
        have E : (∀ q, q = 33 ∨ q = 34 ∨ q = 35 → ∀ x1 x2 x3 x4 : Int32, sm_up (sm_up (sm_up (sm_up Mc 36 nP x1) 37 nP x2) 38 nP x3) 39 nP x4 q = Mc q) := fun q hq x1 x2 x3 x4 => by rw [up_ne (by omega), up_ne (by omega), up_ne (by omega), up_ne (by omega)]
        simp only [kn, cn, u33 (show (33 : Nat) ≠ 36 by decide), u33 (show (33 : Nat) ≠ 37 by decide), u33 (show (33 : Nat) ≠ 38 by decide), u33 (show (33 : Nat) ≠ 39 by decide), u1 (show (1 : Nat) ≠ 49 by decide), u1 (show (1 : Nat) ≠ 50 by decide), u1 (show (1 : Nat) ≠ 51 by decide), u1 (show (1 : Nat) ≠ 52 by decide), v2, n69, up_ne (show (35 : Nat) ≠ 36 by decide), up_ne (show (34 : Nat) ≠ 36 by decide), up_ne (show (34 : Nat) ≠ 37 by decide), up_ne (show (35 : Nat) ≠ 37 by decide), up_ne (show (35 : Nat) ≠ 38 by decide), up_ne (show (48 : Nat) ≠ 49 by decide), up_ne (show (47 : Nat) ≠ 49 by decide), up_ne (show (47 : Nat) ≠ 50 by decide), up_ne (show (48 : Nat) ≠ 50 by decide), up_ne (show (48 : Nat) ≠ 51 by decide), n47, n48, b1, b2, c1, c2, up_at, nI_1, nI_pred]
        have hV := rlV_new (h.1.o (Mc' := Mc) (Mm' := sm_up Mm 1 67 (nI (i + 1))) rfl (fun _ _ _ => rfl) (up_as (by decide)) (fun q h1 h2 => up_ne (by omega))) hn b3 c3
        have hv3 : okv (nP + 1) 3 (nI nP) := ⟨fun _ => ⟨nP, by omega, rfl⟩, fun q => absurd q (by decide)⟩
        have h0 := h
        obtain ⟨-, z1, z2, -, ⟨x1, x2, x3, x4, x5, x6⟩, -⟩ := h
        refine Or.inl ⟨sm_up (ptC (nwC Mc nP (Mm 47 rb) (Mm 48 rb) (Mm 47 rc) (Mm 48 rc)) ra 3 (nI nP)) 33 9 (Mc 33 9 + 1), ptM (nwM (sm_up Mm 1 67 (nI (i + 1))) nP (Mm 47 rb) (Mm 48 rb) (Mm 47 rc) (Mm 48 rc)) ra 3 (nI nP), ?_, ?_, ?_, ?_, ?_⟩
        · show sm_bi (jM_become (nI ra) 3 (nI nP) [p, d1, p, d3, d4] (nwC Mc nP (Mm 47 rb) (Mm 48 rb) (Mm 47 rc) (Mm 48 rc))) _ = _
          rw [m_become ha, bi_some, dq_self, bo_1]
          unfold nwC
          rw [up_as (by decide), E 33 (Or.inl rfl)]
        · show sm_bi (jR_put (nI ra) 3 (nI nP) [] (nwM (sm_up Mm 1 67 (nI (i + 1))) nP (Mm 47 rb) (Mm 48 rb) (Mm 47 rc) (Mm 48 rc))) _ = _
          rw [r_put ha, bi_some, dq_self, bo_1]
        · refine m_next h0 ((rlV_put (r := ra) hV hv3).o (up_as (by decide)) (fun q h1 h2 => up_ne (by omega)) rfl (fun _ _ _ => rfl)) ?_ ?_ ?_ ?_ ?_ ?_ ?_ ?_
          · rw [up_as (by decide), ptC_o (by decide) (by decide)]
            unfold nwC
            rw [up_as (by decide), E 33 (Or.inl rfl)]; exact x3
          · rw [up_at, x4, nI_succ]
          · rw [up_as (by decide), ptC_o (by decide) (by decide)]
            unfold nwC
            rw [up_as (by decide), E 33 (Or.inl rfl)]; exact z1
          · rw [ptM_o (by decide) (by decide)]
            unfold nwM
            rw [up_as (by decide), up_ne (by decide), up_ne (by decide), up_ne (by decide), up_ne (by decide), up_as (by decide)]; exact z2
          · rw [ptM_o (by decide) (by decide)]
            unfold nwM
            rw [up_as (by decide), up_ne (by decide), up_ne (by decide), up_ne (by decide), up_ne (by decide), up_at]
          · rw [ptM_o (by decide) (by decide)]
            unfold nwM
            rw [up_as (by decide), up_ne (by decide), up_ne (by decide), up_ne (by decide), up_ne (by decide), up_as (by decide)]; exact x6
          · rw [ptM_o (by decide) (by decide)]
            unfold nwM
            rw [up_ne (by decide), up_ne (by decide), up_ne (by decide), up_ne (by decide), up_ne (by decide), up_ne (by decide)]
          · rw [ptM_o (by decide) (by decide)]
            unfold nwM
            rw [up_ne (by decide), up_ne (by decide), up_ne (by decide), up_ne (by decide), up_ne (by decide), up_ne (by decide)]
        · intro q hq
          rw [up_ne (by omega), ptC_o (by omega) (by omega)]
          unfold nwC
          rw [up_ne (by omega), up_ne (by omega), up_ne (by omega), up_ne (by omega), up_ne (by omega)]
        · refine ⟨fun q h1 hq => ?_, fun j hj => ?_⟩
          · rw [ptM_o (by omega) (by omega)]
            unfold nwM
            rw [up_ne (by omega), up_ne (by omega), up_ne (by omega), up_ne (by omega), up_ne (by omega), up_ne h1]
          · rw [ptM_o (by decide) (by decide)]
            unfold nwM
            rw [up_as (by omega), up_ne (by decide), up_ne (by decide), up_ne (by decide), up_ne (by decide), up_as (by omega)]
theorem o_load {ra rb : Nat} {c : Int32} (h : m_ctx p nB nP b k s l i Mc Mm) (ha : ra ≤ 5) (hb : 1 ≤ rb ∧ rb ≤ 5) : m_out nB p d1 d3 d4 (jM_load (nI ra) (nI rb) c [p, d1, p, d3, d4] Mc) (sm_ck (nI rb) 6 (sm_ck (nI rb) 6 (if (sm_up Mm 1 67 (nI (i + 1)) 47 (Int32.toNatClampNeg (nI rb))) = (3 : Int32) then (if c = (0 : Int32) then (sm_ck (sm_up Mm 1 67 (nI (i + 1)) 48 (Int32.toNatClampNeg (nI rb))) 400 (jR_doIt_173 c (sm_up Mm 1 67 (nI (i + 1)) 48 (Int32.toNatClampNeg (nI rb))) (nI ra) (sm_up Mm 1 67 (nI (i + 1)) 49 (Int32.toNatClampNeg (sm_up Mm 1 67 (nI (i + 1)) 48 (Int32.toNatClampNeg (nI rb))))) [] (sm_up Mm 1 67 (nI (i + 1))))) else (sm_ck (sm_up Mm 1 67 (nI (i + 1)) 48 (Int32.toNatClampNeg (nI rb))) 400 (jR_doIt_173 c (sm_up Mm 1 67 (nI (i + 1)) 48 (Int32.toNatClampNeg (nI rb))) (nI ra) (sm_up Mm 1 67 (nI (i + 1)) 51 (Int32.toNatClampNeg (sm_up Mm 1 67 (nI (i + 1)) 48 (Int32.toNatClampNeg (nI rb))))) [] (sm_up Mm 1 67 (nI (i + 1)))))) else (sm_bo (0 : Int32) (some ((0 : Int32), [], sm_up Mm 1 67 (nI (i + 1)))))))) (nI (i + 1)) Mc Mm := by
  obtain ⟨b1, b2, b3⟩ := m_reg h.1 hb.1 hb.2
  have kb : ∀ {ρ : Type} {q : Option ρ}, sm_ck (nI rb) 6 q = q := ck_nI (by omega) (by decide)
  have cb : (nI rb).toNatClampNeg = rb := nI_clamp (by omega)
  have n : ∀ q, q ≠ 1 → sm_up Mm 1 67 (nI (i + 1)) q = Mm q := fun q hq => up_ne hq
  rw [kb, kb, cb, n 47 (by decide), n 48 (by decide), n 49 (by decide), n 51 (by decide)]
  unfold jM_load
  rw [kb, cb, b1]
  by_cases g : Mm 47 rb = 3
  · obtain ⟨j, hj, ej⟩ := b3.1 (Or.inl g)
    have hn := h.1.1
    obtain ⟨y1, y2, y3, y4, y5, y6⟩ := h.1.2.2.2.2 j hj
    have kj : ∀ {ρ : Type} {q : Option ρ}, sm_ck (nI j) 400 q = q := ck_nI (by omega) (by decide)
    have cj : (nI j).toNatClampNeg = j := nI_clamp (by omega)
    rw [if_pos g, if_pos g, kb, b2, ej, kj, kj, kj, kj, kj, kj, cj]
    unfold jR_doIt_173 jM_load_69 jR_doIt_195
    by_cases g0 : c = 0
    · rw [if_pos g0, if_pos g0, if_pos g0, kj, cj, n 50 (by decide), y1, y2]
      exact (o_put h ha y5).cw
    · rw [if_neg g0, if_neg g0, if_neg g0, kj, cj, n 52 (by decide), y3, y4]
      exact (o_put h ha y6).cw
  · rw [if_neg g, if_neg g, bo_0]
    exact (o_stuck (nB := nB)).cw
theorem o_open {ra rb rc : Nat} (h : m_ctx p nB nP b k s l i Mc Mm) (ha : ra ≤ 5) (hb : rb ≤ 5) (hc : 1 ≤ rc ∧ rc ≤ 5) : m_out nB p d1 d3 d4 (jM_unwrap (nI ra) (nI rb) (nI rc) [p, d1, p, d3, d4] Mc) (jR_open (nI ra) (nI rb) (nI rc) [] (sm_up Mm 1 67 (nI (i + 1)))) (nI (i + 1)) Mc Mm := by
  obtain ⟨c1, c2, c3⟩ := m_reg h.1 hc.1 hc.2
  have kc : ∀ {ρ : Type} {q : Option ρ}, sm_ck (nI rc) 6 q = q := ck_nI (by omega) (by decide)
  have ka : ∀ {ρ : Type} {q : Option ρ}, sm_ck (nI ra) 6 q = q := ck_nI (by omega) (by decide)
  have cc : (nI rc).toNatClampNeg = rc := nI_clamp (by omega)
  have ca : (nI ra).toNatClampNeg = ra := nI_clamp (by omega)
  have n : ∀ q, q ≠ 1 → sm_up Mm 1 67 (nI (i + 1)) q = Mm q := fun q hq => up_ne hq
  have no1 : jM_unwrap_25 [p, d1, p, d3, d4] Mc = some (0, [p, d1, p, d3, d4], sm_up Mc 33 10 2) := by
    unfold jM_unwrap_25
    rw [m_stop, bi_some, dq_self, bo_0]
  have no2 : jR_open_29 [] (sm_up Mm 1 67 (nI (i + 1))) = some (0, [], sm_up Mm 1 67 (nI (i + 1))) := bo_0
  simp only [jM_unwrap, jR_open, sm_wr, kc, ka, cc, ca, n 47 (by decide), n 48 (by decide), n 49 (by decide), n 50 (by decide), c1, c2]
  by_cases g : Mm 47 rc = 4
  · obtain ⟨j, hj, ej⟩ := c3.1 (Or.inr g)
    have hn := h.1.1
    obtain ⟨y1, y2, y3, y4, y5, y6⟩ := h.1.2.2.2.2 j hj
    have kj : ∀ {ρ : Type} {q : Option ρ}, sm_ck (nI j) 400 q = q := ck_nI (by omega) (by decide)
    have cj : (nI j).toNatClampNeg = j := nI_clamp (by omega)
    rw [if_pos g, if_pos g]
    simp only [ej, kj, cj, y1]
    by_cases g2 : Mm 49 j = 2
    · rw [if_pos g2, if_pos g2, up_ne (show (37 : Nat) ≠ 34 by decide), y2, r_put ha, bi_some, dq_self]
      rw [g2] at y5
      have e1 : sm_up (sm_up Mc 34 ra 2) 35 ra (Mm 50 j) = ptC Mc ra 2 (Mm 50 j) := rfl
      rw [e1, ptC_o (by decide) (by decide), ptC_o (by decide) (by decide), ptM_o (by decide) (by decide), ptM_o (by decide) (by decide), n 51 (by decide), n 52 (by decide), y3, y4]
      obtain ⟨hV, z1, z2, z3, ⟨x1, x2, x3, x4, x5, x6⟩, z4, z5, z6⟩ := h
      have hV1 := rlV_put (r := ra) (hV.o (Mc' := Mc) (Mm' := sm_up Mm 1 67 (nI (i + 1))) rfl (fun _ _ _ => rfl) (up_as (by decide)) (fun q h1 h2 => up_ne (by omega))) y5
      have hV2 := rlV_put (r := rb) hV1 y6
      refine (m_out.cw (jr := sm_bi (jR_put (nI rb) (Mm 51 j) (Mm 52 j) [] (ptM (sm_up Mm 1 67 (nI (i + 1))) ra 2 (Mm 50 j))) (fun x E M => sm_dq E [] (sm_bo (1 : Int32) (some ((1 : Int32), [], M))))) ?_)
      refine Or.inl ⟨sm_up (ptC (ptC Mc ra 2 (Mm 50 j)) rb (Mm 51 j) (Mm 52 j)) 33 9 (Mc 33 9 + 1), ptM (ptM (sm_up Mm 1 67 (nI (i + 1))) ra 2 (Mm 50 j)) rb (Mm 51 j) (Mm 52 j), ?_, ?_, ?_, ?_, ?_⟩
      · rw [m_become hb, ptC_o (by decide) (by decide)]
      · rw [r_put hb, bi_some, dq_self, bo_1]
      · refine m_next (p := p) (nP := nP) ⟨hV, z1, z2, z3, ⟨x1, x2, x3, x4, x5, x6⟩, z4, z5, z6⟩ (hV2.o (up_as (by decide)) (fun q h1 h2 => up_ne (by omega)) rfl (fun _ _ _ => rfl)) ?_ ?_ ?_ ?_ ?_ ?_ ?_ ?_
        · rw [up_as (by decide), ptC_o (by decide) (by decide), ptC_o (by decide) (by decide)]; exact x3
        · rw [up_at, x4, nI_succ]
        · rw [up_as (by decide), ptC_o (by decide) (by decide), ptC_o (by decide) (by decide)]; exact z1
        · rw [ptM_o (by decide) (by decide), ptM_o (by decide) (by decide), up_as (by decide)]; exact z2
        · rw [ptM_o (by decide) (by decide), ptM_o (by decide) (by decide), up_at]
        · rw [ptM_o (by decide) (by decide), ptM_o (by decide) (by decide), up_as (by decide)]; exact x6
        · rw [ptM_o (by decide) (by decide), ptM_o (by decide) (by decide), up_ne (by decide)]
        · rw [ptM_o (by decide) (by decide), ptM_o (by decide) (by decide), up_ne (by decide)]
      · intro q hq
        rw [up_ne (by omega), ptC_o (by omega) (by omega), ptC_o (by omega) (by omega)]
      · refine ⟨fun q h1 hq => ?_, fun j hj => ?_⟩
        · rw [ptM_o (by omega) (by omega), ptM_o (by omega) (by omega), up_ne h1]
        · rw [ptM_o (by decide) (by decide), ptM_o (by decide) (by decide), up_as (by omega)]
    · rw [if_neg g2, if_neg g2]
      exact Or.inr (Or.inl ⟨no1, no2⟩)
  · rw [if_neg g, if_neg g]
    exact Or.inr (Or.inl ⟨no1, no2⟩)
end
