/-! every instruction; a step; a run -/
section
variable {pV : pVt} {nB nC nP p d1 d3 d4 b k s l i : Nat} {L LM : List Ty} {W : Nat → Ty} {A : Nat → Option Ty} {Mc Mm N : sm_M} {kd v w : Int32}
theorem o_all (hp : (p = 40 ∧ d1 = 50) ∨ (p = 50 ∧ d1 = 40)) (h : m_ctx p nB nP b k s l i Mc Mm) (e1 : Mc (p + 1) i = Mm 29 i) (e2 : Mc (p + 2) i = Mm 30 i) (e3 : Mc (p + 3) i = Mm 31 i) (e4 : Mm 29 i ≠ 7 → Mc (p + 4) i = Mm 32 i) (hf : frm (Mm 29 i) (Mm 30 i) (Mm 31 i) (Mm 32 i)) : m_out nB p d1 d3 d4 (m_tail p d1 d3 d4 i Mc) (d_tail i Mm (sm_up Mm 1 67 (nI (i + 1)))) (nI (i + 1)) Mc Mm := by
  have hi : i < 300 := by obtain ⟨-, -, -, ⟨-, -, h1, h2, h3⟩, -⟩ := h; omega
  have n : ∀ q, q ≠ 1 → sm_up Mm 1 67 (nI (i + 1)) q = Mm q := fun q hq => up_ne hq
  have n29 : sm_up Mm 1 67 (nI (i + 1)) 29 i = Mm 29 i := by rw [n 29 (by decide)]
  have hcl : (nI i).toNatClampNeg = i := nI_clamp (by omega)
  rcases hf with ⟨ho, ra, r1, r2, ea⟩ | ⟨ho, ⟨ra, a1, a2, ea⟩, ⟨rb, b1, b2, eb⟩, rc, c1, c2, ec⟩ | ⟨ho, ⟨ra, a1, a2, ea⟩, ⟨rb, b1, b2, eb⟩, -⟩ | ⟨ho, ⟨ra, a1, a2, ea⟩, hb⟩ | ⟨ho, ⟨ra, a1, a2, ea⟩, rb, b1, b2, eb⟩ | ⟨ho, hb⟩ | ⟨ho, ⟨ra, a1, a2, ea⟩, hb⟩ | ⟨ho, ra, a1, a2, ea⟩ | ho
  · rw [mt_0 (e1.trans ho), dt_0 (n29.trans ho), e2, e3, ea]
    exact (o_put h r2 ok_1).cw
  · have h7 : Mm 29 i ≠ 7 := by intro q; rw [q] at ho; revert ho; decide
    have c4 := e4 h7
    have rk : ∀ o : Nat, (o = 1 ∨ o = 2 ∨ o = 3) → Mm 29 i = nI o → m_out nB p d1 d3 d4 (sm_dq [p, d1, p, d3, d4] [p, d1, p, d3, d4] (jM_perform_152 p d1 p d3 d4 (nI i) (Mc (p + 2) i) (Mc (p + 3) i) (Mc (p + 4) i) Mc)) (jR_doIt_105 (nI i) (Mm 30 i) (Mm 31 i) (Mm 32 i) [] (sm_up Mm 1 67 (nI (i + 1)))) (nI (i + 1)) Mc Mm := by
      intro o ho1 ho2
      unfold jM_perform_152 jR_doIt_105
      rw [dq_self, ck_nI hi (by decide), ck_nI (by omega) (by decide), hcl, n29, e1, ho2, e2, e3, c4, ea, eb, ec]
      exact (o_reck h ho1 a2 ⟨b1, b2⟩ ⟨c1, c2⟩).cw.rv
    rcases ho with ho | ho | ho | ho | ho
    · rw [mt_1 (e1.trans ho), dt_1 (n29.trans ho)]
      exact rk 1 (Or.inl rfl) ho
    · rw [mt_2 (e1.trans ho), dt_2 (n29.trans ho)]
      exact rk 2 (Or.inr (Or.inl rfl)) ho
    · rw [mt_3 (e1.trans ho), dt_3 (n29.trans ho)]
      exact rk 3 (Or.inr (Or.inr rfl)) ho
    · rw [mt_4 (e1.trans ho), dt_4 (n29.trans ho), e2, e3, c4, ea, eb, ec]
      exact (o_pair h a2 ⟨b1, b2⟩ ⟨c1, c2⟩).cw.rv
    · rw [mt_8 (e1.trans ho), dt_8 (n29.trans ho), e2, e3, c4, ea, eb, ec]
      exact (o_open h a2 b2 ⟨c1, c2⟩).cw.rv
  · have c4 := e4 (by intro q; rw [q] at ho; revert ho; decide)
    rw [mt_5 (e1.trans ho), dt_5 (n29.trans ho), e2, e3, c4, ea, eb]
    exact (o_load h a2 ⟨b1, b2⟩).cw
  · rw [mt_6 (e1.trans ho), dt_6 (n29.trans ho), e2, e3, ea]
    exact (o_put h a2 ⟨fun q => absurd q (by decide), fun _ => hb⟩).cw
  · obtain ⟨x1, x2, x3⟩ := m_reg h.1 b1 b2
    have kb : ∀ {ρ : Type} {q : Option ρ}, sm_ck (nI rb) 6 q = q := ck_nI (by omega) (by decide)
    have cb : (nI rb).toNatClampNeg = rb := nI_clamp (by omega)
    rw [mt_7 (e1.trans ho), dt_7 (n29.trans ho), e2, e3, ea, eb, kb, kb, cb, n 47 (by decide), n 48 (by decide), x1]
    by_cases g : Mm 47 rb = 3
    · obtain ⟨j, hj, ej⟩ := x3.1 (Or.inl g)
      rw [if_pos g, if_pos g, kb, kb, x2, ej]
      simp only [jM_perform_226, dq_self]
      exact (o_put h a2 ⟨fun _ => ⟨j, hj, rfl⟩, fun q => absurd q (by decide)⟩).cw
    · rw [if_neg g, if_neg g, bo_0]
      simp only [jM_perform_226, dq_self, kb]
      exact (o_stuck (nB := nB)).cw
  · rw [mt_9 (e1.trans ho), dt_9 (n29.trans ho), e2, ga_in (in_gC hp)]
    exact (o_enter hp h hb).cw.rv
  · obtain ⟨x1, x2, x3⟩ := m_reg h.1 a1 a2
    have ka : ∀ {ρ : Type} {q : Option ρ}, sm_ck (nI ra) 6 q = q := ck_nI (by omega) (by decide)
    have ca : (nI ra).toNatClampNeg = ra := nI_clamp (by omega)
    rw [mt_10 (e1.trans ho), dt_10 (n29.trans ho), e2, e3, ea, ka, ca, n 47 (by decide), n 48 (by decide)]
    unfold jM_branch
    rw [ka, ca, x1]
    by_cases g : Mm 47 ra = 1
    · rw [if_pos g, if_pos g, ka, ka, x2]
      by_cases g0 : Mm 48 ra = 0
      · rw [if_pos g0, if_pos g0]
        simp only [sm_wr, bo_1]
        refine m_out.cw (Or.inl ⟨sm_up Mc 33 9 (Mc 33 9 + 1), sm_up Mm 1 67 (nI (i + 1)), rfl, bo_1, ?_, ?_, ?_⟩)
        · have h0 := h
          obtain ⟨hV, z1, z2, -, ⟨x1, x2, x3, x4, x5, x6⟩, -⟩ := h
          refine m_next h0 (hV.o (up_as (by decide)) (fun q h1 h2 => up_ne (by omega)) (up_as (by decide)) (fun q h1 h2 => up_ne (by omega))) ?_ ?_ ?_ ?_ up_at ?_ (up_ne (by decide)) (up_ne (by decide))
          · rw [up_as (by decide)]; exact x3
          · rw [up_at, x4, nI_succ]
          · rw [up_as (by decide)]; exact z1
          · rw [up_as (by decide)]; exact z2
          · rw [up_as (by decide)]; exact x6
        · intro q hq
          exact up_ne (by omega)
        · exact ⟨fun q h1 hq => up_ne h1, fun j hj => up_as (by omega)⟩
      · rw [if_neg g0, if_neg g0, ga_in (in_gC hp)]
        refine (m_out.cw (m_out.cw ?_))
        have := o_enter (w := nI (i + 1)) hp h hb (d3 := d3) (d4 := d4)
        rcases this with ⟨Mc', M1, q1, q2, q3⟩ | ⟨q1, q2⟩ | ⟨q1, q2⟩
        · exact Or.inl ⟨Mc', M1, q1, by rw [q2, bi_some, dq_self, if_neg (by decide)]; exact bo_1, q3⟩
        · exact Or.inr (Or.inl ⟨q1, by rw [q2, bi_some, dq_self, if_pos rfl]; exact bo_0⟩)
        · exact Or.inr (Or.inr ⟨q1, by rw [q2, bi_some, dq_self, if_pos rfl]; exact bo_0⟩)
    · rw [if_neg g, if_neg g, show jR_doIt_281 [] (sm_up Mm 1 67 (nI (i + 1))) = some (0, [], sm_up Mm 1 67 (nI (i + 1))) from bo_0]
      exact (o_stuck (nB := nB)).cw.cw
  · obtain ⟨x1, x2, x3⟩ := m_reg h.1 a1 a2
    have ka : ∀ {ρ : Type} {q : Option ρ}, sm_ck (nI ra) 6 q = q := ck_nI (by omega) (by decide)
    have ca : (nI ra).toNatClampNeg = ra := nI_clamp (by omega)
    rw [mt_11 (e1.trans ho), dt_11 (n29.trans ho), e2, ea, ka, ka, ca, n 47 (by decide), n 48 (by decide), x1]
    by_cases g : Mm 47 ra = 2
    · rw [if_pos g, if_pos g, ka, ka, ga_in (in_gC hp), x2]
      simp only [jM_perform_277, dq_self]
      refine m_out.cw ?_
      have := o_enter (w := nI (i + 1)) hp h (x3.2 g) (d3 := d3) (d4 := d4)
      rcases this with ⟨Mc', M1, q1, q2, q3⟩ | ⟨q1, q2⟩ | ⟨q1, q2⟩
      · exact Or.inl ⟨Mc', M1, q1, by rw [q2, bi_some, if_neg (by decide)]; exact bo_1, q3⟩
      · exact Or.inr (Or.inl ⟨q1, by rw [q2, bi_some, if_pos rfl]; exact bo_0⟩)
      · exact Or.inr (Or.inr ⟨q1, by rw [q2, bi_some, if_pos rfl]; exact bo_0⟩)
    · rw [if_neg g, if_neg g, show jR_doIt_310 [] (sm_up Mm 1 67 (nI (i + 1))) = some (0, [], sm_up Mm 1 67 (nI (i + 1))) from bo_0]
      simp only [jM_perform_277, dq_self, ka]
      exact (o_stuck (nB := nB)).cw
  · rw [mt_12 (e1.trans ho), dt_12 (n29.trans ho)]
    simp only [sm_wr, bo_1]
    have hV := h.1.o (Mc' := sm_up Mc 33 10 1) (Mm' := sm_up (sm_up Mm 1 67 (nI (i + 1))) 1 66 1) (up_as (by decide)) (fun q h1 h2 => up_ne (by omega)) (by rw [up_as (by decide), up_as (by decide)]) (fun q h1 h2 => by rw [up_ne (by omega), up_ne (by omega)])
    refine Or.inl ⟨sm_up Mc 33 10 1, sm_up (sm_up Mm 1 67 (nI (i + 1))) 1 66 1, rfl, rfl, ⟨by rw [up_at, up_at], nP, hV.1, hV.2.1, hV.2.2.1, hV.2.2.2.1, hV.2.2.2.2, fun q => ?_⟩, ?_, ?_⟩
    · rw [up_at] at q
      exact absurd q (by decide)
    · intro q hq
      exact up_ne (by omega)
    · exact ⟨fun q h1 hq => by rw [up_ne h1, up_ne h1], fun j hj => by rw [up_as (by omega), up_as (by omega)]⟩
theorem up_id {M : sm_M} {q j : Nat} : sm_up M q j (M q j) = M := by
  funext x
  by_cases h : x = q
  · subst h
    rw [sm_up_same]
    funext y
    by_cases hy : y = j
    · subst hy; rw [upd_at]
    · rw [upd_ne hy]
  · rw [up_ne h]
/-- behind the instruction -/
theorem r52_ok {M1 : sm_M} {l1 l2 : Int32} (hlt : Mm 1 67 < Mm 1 68) (h : jR_doIt (Mm 1 67) [] Mm = some (1, [], M1)) : jR_run_52 l1 l2 [] Mm = some (.inl (l1, l2 + 1, M1)) := by
  unfold jR_run_52
  rw [if_pos hlt, h, bi_some, dq_self, if_neg (by decide), dq_self]
  unfold jR_run_78
  rw [if_neg (by decide), dq_self]
  unfold jR_run_91
  rw [if_neg (by decide), dq_self]
  simp only [jR_run_107, sm_wr, up_id]
  rw [if_neg (by decide), dq_self]
  unfold jR_run_124
  rw [dq_self]
  simp only [jR_run_132, sm_wr, up_id]
  rw [dq_self]
theorem r77 {M1 : sm_M} {l1 l2 x : Int32} : jR_run_77 l1 l2 x [] M1 = some (.inl (l1, l2 + 0, sm_up (sm_up M1 1 67 x) 1 66 (if M1 1 66 = 3 then 3 else 2))) := by
  unfold jR_run_77 jR_run_78
  rw [dq_self, if_pos rfl, dq_self]
  unfold jR_run_91
  rw [if_pos rfl, dq_self]
  simp only [jR_run_107, sm_wr]
  rw [if_pos trivial, up_as (show (66 : Nat) ≠ 67 by decide)]
  by_cases h : M1 1 66 = 3
  · rw [if_pos h, if_pos h, dq_self]
    unfold jR_run_124
    rw [dq_self, up_as (show (66 : Nat) ≠ 67 by decide), h]
    simp only [jR_run_132, sm_wr]
    rw [dq_self]
  · rw [if_neg h, if_neg h, dq_self]
    simp only [jR_run_132, sm_wr]
    rw [dq_self]
theorem r52_no {M1 : sm_M} {l1 l2 : Int32} (hlt : Mm 1 67 < Mm 1 68) (h : jR_doIt (Mm 1 67) [] Mm = some (0, [], M1)) : jR_run_52 l1 l2 [] Mm = some (.inl (l1, l2 + 0, sm_up (sm_up M1 1 67 (Mm 1 67)) 1 66 (if M1 1 66 = 3 then 3 else 2))) := by
  unfold jR_run_52
  rw [if_pos hlt, h, bi_some, dq_self, if_pos rfl, dq_self, r77]
/-- what a step comes to -/
def m_res (nB p d1 d3 d4 : Nat) (f : Int32 → Int32 → Option ((Int32 × Int32 × sm_M) ⊕ sm_S)) (Mc Mm : sm_M) : Prop := ∃ (x : Int32) (Mc' Mm' : sm_M), jM_perform p d1 p d3 d4 Mc = some (x, [p, d1, p, d3, d4], Mc') ∧ (∀ l1 l2 : Int32, f l1 l2 = some (.inl (l1, l2 + x, Mm'))) ∧ (x = 1 ∨ x = 0 ∧ Mc' 33 10 ≠ 0) ∧ rlM nB Mc' Mm' ∧ mfC Mc' Mc ∧ mfM Mm' Mm
theorem m_stuck (hV : rlV nP Mc Mm) {x : Int32} (hv : v ≠ 0) {M1 : sm_M} (hM : rlV nP Mc M1) (hf : mfM M1 Mm) : rlM nB (sm_up Mc 33 10 v) (sm_up (sm_up M1 1 67 x) 1 66 v) ∧ mfC (sm_up Mc 33 10 v) Mc ∧ mfM (sm_up (sm_up M1 1 67 x) 1 66 v) Mm := by
  have hV' := hM.o (Mc' := sm_up Mc 33 10 v) (Mm' := sm_up (sm_up M1 1 67 x) 1 66 v) (up_as (by decide)) (fun q h1 h2 => up_ne (by omega)) (by rw [up_as (by decide), up_as (by decide)]) (fun q h1 h2 => by rw [up_ne (by omega), up_ne (by omega)])
  refine ⟨⟨by rw [up_at, up_at], nP, hV'.1, hV'.2.1, hV'.2.2.1, hV'.2.2.2.1, hV'.2.2.2.2, fun q => ?_⟩, fun q hq => up_ne (by omega), fun q h1 hq => ?_, fun j hj => ?_⟩
  · rw [up_at] at q
    exact absurd q hv
  · rw [up_ne h1, up_ne h1]; exact hf.1 q h1 hq
  · rw [up_as (by omega), up_as (by omega)]; exact hf.2 j hj
theorem m_in (hp : (p = 40 ∧ d1 = 50) ∨ (p = 50 ∧ d1 = 40)) (h : m_ctx p nB nP b k s l i Mc Mm) (eS : Mc (p + 6) b = nI s) (eL : Mc (p + 7) b = nI l) (e1 : Mc (p + 1) i = Mm 29 i) (e2 : Mc (p + 2) i = Mm 30 i) (e3 : Mc (p + 3) i = Mm 31 i) (e4 : Mm 29 i ≠ 7 → Mc (p + 4) i = Mm 32 i) (hf : frm (Mm 29 i) (Mm 30 i) (Mm 31 i) (Mm 32 i)) : m_res nB p d1 d3 d4 (fun l1 l2 => jR_run_52 l1 l2 [] Mm) Mc Mm := by
  have ho := o_all (d3 := d3) (d4 := d4) hp h e1 e2 e3 e4 hf
  have h0 := h
  obtain ⟨hV, z1, z2, ⟨c1, c2, c3, c4, c5⟩, ⟨x1, x2, x3, x4, x5, x6⟩, y1, y2, y3⟩ := h
  have hi : i < 300 := by omega
  have hb : jC_hasBlock p (nI b) [p, d1, p, d3, d4] Mc = some (1, [p, d1, p, d3, d4], Mc) := by
    rcases c_hasB (D := [p, d1, p, d3, d4]) c2 y1 (nI b) with ⟨_, -, -, q⟩ | ⟨q, -⟩
    · exact q
    · exact absurd ⟨nI_pos (by omega), nI_lt c1 (by omega)⟩ q
  have kb : ∀ {ρ : Type} {q : Option ρ}, sm_ck (nI b) 40 q = q := ck_nI (by omega) (by decide)
  have cb : (nI b).toNatClampNeg = b := nI_clamp (by omega)
  have ki : ∀ {ρ : Type} {q : Option ρ}, sm_ck (nI i) 300 q = q := ck_nI hi (by decide)
  have ci : (nI i).toNatClampNeg = i := nI_clamp (by omega)
  have hpf : jM_perform p d1 p d3 d4 Mc = m_tail p d1 d3 d4 i Mc := by
    unfold jM_perform
    rw [x3, ga_in (in_gC hp)]
    unfold jC_lengthOf jC_startOf
    rw [ga_in (in_gC hp), hb, bi_some, dq_self, if_neg (by decide), kb, cb, eL]
    unfold jC_lengthOf_18
    rw [bi_some, dq_self, x4, if_pos (nI_lt c3 (by omega)), ga_in (in_gC hp), x3, ga_in (in_gC hp), hb, bi_some, dq_self, if_neg (by decide), kb, cb, eS]
    unfold jC_startOf_18
    rw [bi_some, dq_self, x4, nI_add, ← c4, ki, ki, ki, ki, ci]
    rfl
  have ki1 : ∀ {ρ : Type} {q : Option ρ}, sm_ck (nI i) 301 q = q := ck_nI (by omega) (by decide)
  have hdo : jR_doIt (Mm 1 67) [] Mm = d_tail i Mm (sm_up Mm 1 67 (nI (i + 1))) := by
    rw [x5]
    simp only [jR_doIt, sm_wr]
    rw [ki1, ki1, ki1, ki1, ci, nI_1]
    rfl
  have hlt : Mm 1 67 < Mm 1 68 := by rw [x5, x6]; exact nI_lt (by omega) (by omega)
  rw [← hpf, ← hdo] at ho
  rcases ho with ⟨Mc', M1, q1, q2, q3, q4, q5⟩ | ⟨q1, q2⟩ | ⟨q1, q2⟩
  · exact ⟨1, Mc', M1, q1, fun l1 l2 => r52_ok hlt q2, Or.inl rfl, q3, q4, q5⟩
  · have e66 : sm_up Mm 1 67 (nI (i + 1)) 1 66 = 0 := by rw [up_as (by decide)]; exact z2
    have hs := m_stuck (nB := nB) (v := 2) (x := Mm 1 67) hV (by decide) (M1 := sm_up Mm 1 67 (nI (i + 1))) (hV.o rfl (fun _ _ _ => rfl) (up_as (by decide)) (fun q h1 h2 => up_ne (by omega))) ⟨fun q h1 hq => up_ne h1, fun j hj => up_as (by omega)⟩
    refine ⟨0, _, _, q1, fun l1 l2 => ?_, Or.inr ⟨rfl, by rw [up_at]; decide⟩, hs.1, hs.2.1, hs.2.2⟩
    show jR_run_52 l1 l2 [] Mm = _
    rw [r52_no hlt q2, e66, if_neg (by decide)]
  · have e66 : sm_up (sm_up Mm 1 67 (nI (i + 1))) 1 66 3 1 66 = 3 := up_at
    have hs := m_stuck (nB := nB) (v := 3) (x := Mm 1 67) hV (by decide) (M1 := sm_up (sm_up Mm 1 67 (nI (i + 1))) 1 66 3) (hV.o rfl (fun _ _ _ => rfl) (by rw [up_as (by decide), up_as (by decide)]) (fun q h1 h2 => by rw [up_ne (by omega), up_ne (by omega)])) ⟨fun q h1 hq => by rw [up_ne h1, up_ne h1], fun j hj => by rw [up_as (by omega), up_as (by omega)]⟩
    refine ⟨0, _, _, q1, fun l1 l2 => ?_, Or.inr ⟨rfl, by rw [up_at]; decide⟩, hs.1, hs.2.1, hs.2.2⟩
    show jR_run_52 l1 l2 [] Mm = _
    rw [r52_no hlt q2, e66, if_pos rfl]
end
