/-! run -/
section
variable {pV : pVt} {nB nC nP p d1 d3 d4 b k s l i : Nat} {L LM : List Ty} {W : Nat → Ty} {A : Nat → Option Ty} {Mc Mm N X : sm_M} {kd v w : Int32}
theorem m_end (hp : (p = 40 ∧ d1 = 50) ∨ (p = 50 ∧ d1 = 40)) (hlen : jC_lengthOf p (Mc 33 8) [p, d1, p, d3, d4] Mc = some (nI l, [p, d1, p, d3, d4], Mc)) (e9 : Mc 33 9 = nI k) (hkl : l ≤ k) (hk : k < 2 ^ 31) : jM_perform p d1 p d3 d4 Mc = some (0, [p, d1, p, d3, d4], sm_up Mc 33 10 2) := by
  unfold jM_perform
  rw [ga_in (in_gC hp), hlen, bi_some, dq_self, e9, if_neg (nI_nlt hkl hk), m_stop, bi_some, dq_self, bo_0]
theorem r52_end {l1 l2 : Int32} (h : ¬ Mm 1 67 < Mm 1 68) : jR_run_52 l1 l2 [] Mm = some (.inl (l1, l2 + 0, sm_up (sm_up Mm 1 67 (Mm 1 67)) 1 66 (if Mm 1 66 = 3 then 3 else 2))) := by
  unfold jR_run_52
  rw [if_neg h, dq_self, r77]
/-- a machine that has begun -/
theorem m_begun (hp : (p = 40 ∧ d1 = 50) ∨ (p = 50 ∧ d1 = 40)) (hC : rlC pV p L LM nC nB W A Mc X) (hV : rlV nP Mc X) (h10 : Mc 33 10 = 0) (h66 : X 1 66 = 0) (hb : b < nB) (hk : k ≤ l) (hs : s + l ≤ 300) (x1 : X 33 b = nI s) (x2 : X 34 b = nI l) (x3 : Mc 33 8 = nI b) (x4 : Mc 33 9 = nI k) (x5 : X 1 67 = nI (s + k)) (x6 : X 1 68 = nI (s + l)) : m_res nB p d1 d3 d4 (fun l1 l2 => jR_run_52 l1 l2 [] X) Mc X := by
  obtain ⟨c1, c2, c3, c4, c5, c6, c7, c8, c9, c10, c11⟩ := hC
  obtain ⟨s', l', q0, q1, q2, q3, q4⟩ := c9 b hb
  have es : s = s' := nI_inj (by omega) (by omega) (x1.symm.trans q2)
  have el : l = l' := nI_inj (by omega) (by omega) (x2.symm.trans q4)
  subst es; subst el
  by_cases hkl : k < l
  · obtain ⟨e1, e2, e3, e4, e5, e6⟩ := c8 (s + k) (by omega)
    refine m_in (s := s) (l := l) (b := b) (k := k) (i := s + k) hp ⟨hV, h10, h66, ⟨hb, c2, hkl, rfl, hs⟩, ⟨x1, x2, x3, x4, x5, x6⟩, c5, c6, fun b' hb' => ?_⟩ q1 q3 e1 e2 e3 (fun h7 => (e5 h7).1) e4
    obtain ⟨s2, l2, y0, y1, y2, y3, y4⟩ := c9 b' hb'
    exact ⟨s2, l2, by omega, y2, y4⟩
  · have hbk : jC_hasBlock p (nI b) [p, d1, p, d3, d4] Mc = some (1, [p, d1, p, d3, d4], Mc) := by
      rcases c_hasB (D := [p, d1, p, d3, d4]) c2 c5 (nI b) with ⟨_, -, -, q⟩ | ⟨q, -⟩
      · exact q
      · exact absurd ⟨nI_pos (by omega), nI_lt hb (by omega)⟩ q
    have hlen : jC_lengthOf p (Mc 33 8) [p, d1, p, d3, d4] Mc = some (nI l, [p, d1, p, d3, d4], Mc) := by
      unfold jC_lengthOf
      rw [x3, ga_in (in_gC hp), hbk, bi_some, dq_self, if_neg (by decide), ck_nI (by omega) (by decide), nI_clamp (by omega), q3]
      rfl
    have hst := m_stuck (nB := nB) (v := 2) (x := X 1 67) hV (by decide) (M1 := X) hV ⟨fun _ _ _ => rfl, fun _ _ => rfl⟩
    refine ⟨0, _, _, m_end hp hlen x4 (by omega) (by omega), fun l1 l2 => ?_, Or.inr ⟨rfl, by rw [up_at]; decide⟩, hst.1, hst.2.1, hst.2.2⟩
    show jR_run_52 l1 l2 [] X = _
    rw [r52_end (by rw [x5, x6]; exact nI_nlt (by omega) (by omega)), h66, if_neg (by decide)]
/-- what the reference does in a round of its loop -/
noncomputable def r_round (M : sm_M) (l1 l2 : Int32) : Option ((Int32 × Int32 × sm_M) ⊕ sm_S) := (if (M 1 68) < (0 : Int32) then (sm_bi (jR_go (0 : Int32) [] M) (fun x1 E1 M1 => sm_dq E1 [] (if x1 = (0 : Int32) then (sm_wr (sm_up M1 1 68 (0 : Int32)) (fun N2 => (sm_dq [] [] (jR_run_52 l1 l2 [] N2)))) else (sm_dq [] [] (jR_run_52 l1 l2 [] M1))))) else (sm_dq [] [] (jR_run_52 l1 l2 [] M)))
theorem m_step (hp : (p = 40 ∧ d1 = 50) ∨ (p = 50 ∧ d1 = 40)) (h : rl pV p L LM nC nB W A Mc Mm) (h0 : Mc 33 10 = 0) : m_res nB p d1 d3 d4 (r_round Mm) Mc Mm := by
  obtain ⟨-, -, -, hC, h66, nP, m1, m2, m3, m4, m5, hpos⟩ := h
  have hV : rlV nP Mc Mm := ⟨m1, m2, m3, m4, m5⟩
  rw [h0] at h66
  rcases hpos h0 with ⟨p68, p67, p8, p9⟩ | ⟨b, k, s, l, hb, hk, hs, x1, x2, x3, x4, x5, x6⟩
  · have c2 := hC.2.1
    have c5 := hC.2.2.2.2.1
    have c6 := hC.2.2.2.2.2.1
    by_cases hn : 0 < nB
    · obtain ⟨s, l, q0, q1, q2, q3, q4⟩ := hC.2.2.2.2.2.2.2.2.1 0 hn
      have q0' : s + l ≤ 300 := by have := hC.1; omega
      have hgo : jR_go 0 [] Mm = some (1, [], sm_up (sm_up Mm 1 67 (nI s)) 1 68 (nI (s + l))) := by
        unfold jR_go
        rw [c6, if_pos (show (0 : Int32) < nI nB from nI_lt hn (by omega)), ck_0 (by decide), show (0 : Int32).toNatClampNeg = 0 from rfl, q2]
        simp only [sm_wr, bo_1]
        rw [ck_0 (by decide), ck_0 (by decide), up_ne (show (33 : Nat) ≠ 1 by decide), up_ne (show (34 : Nat) ≠ 1 by decide), q2, q4, nI_add]
      have o : ∀ q, q ≠ 1 → sm_up (sm_up Mm 1 67 (nI s)) 1 68 (nI (s + l)) q = Mm q := fun q hq => by rw [up_ne hq, up_ne hq]
      have e : ∀ j, j ≠ 67 → j ≠ 68 → sm_up (sm_up Mm 1 67 (nI s)) 1 68 (nI (s + l)) 1 j = Mm 1 j := fun j h1 h2 => by rw [up_as h2, up_as h1]
      obtain ⟨x, Mc', Mm', r1, r2, r3, r4, r5, r6⟩ := m_begun (d3 := d3) (d4 := d4) (b := 0) (k := 0) (s := s) (l := l) (X := sm_up (sm_up Mm 1 67 (nI s)) 1 68 (nI (s + l))) hp (hC.o (fun _ _ _ => rfl) (fun q h1 h2 => o q (by omega)) (e 37 (by decide) (by decide)) (e 38 (by decide) (by decide)) (e 39 (by decide) (by decide))) (hV.o rfl (fun _ _ _ => rfl) (e 69 (by decide) (by decide)) (fun q h1 h2 => o q (by omega))) h0 ((e 66 (by decide) (by decide)).trans h66) hn (by omega) q0' (by rw [o 33 (by decide)]; exact q2) (by rw [o 34 (by decide)]; exact q4) p8 p9 (by rw [up_as (by decide), up_at]; rfl) up_at
      refine ⟨x, Mc', Mm', r1, fun l1 l2 => ?_, r3, r4, r5, fun q h1 hq => (r6.1 q h1 hq).trans (o q h1), fun j hj => (r6.2 j hj).trans (e j (by omega) (by omega))⟩
      unfold r_round
      rw [p68, if_pos (by decide), hgo, bi_some, dq_self, if_neg (by decide), dq_self]
      exact r2 l1 l2
    · have hn0 : nB = 0 := by omega
      subst hn0
      have hgo : jR_go 0 [] Mm = some (0, [], Mm) := by
        unfold jR_go
        rw [c6, if_neg (by decide), bo_0]
      have hlen : jC_lengthOf p (Mc 33 8) [p, d1, p, d3, d4] Mc = some (nI 0, [p, d1, p, d3, d4], Mc) := by
        unfold jC_lengthOf
        rcases c_hasB (D := [p, d1, p, d3, d4]) c2 c5 (Mc 33 8) with ⟨_, q, -⟩ | ⟨-, q⟩
        · exact absurd q (by omega)
        · rw [ga_in (in_gC hp), q, bi_some, dq_self, if_pos rfl]
          rfl
      have hV1 : rlV nP Mc (sm_up Mm 1 68 0) := hV.o rfl (fun _ _ _ => rfl) (up_as (by decide)) (fun q h1 h2 => up_ne (by omega))
      have hst := m_stuck (nB := 0) (v := 2) (x := Mm 1 67) hV (by decide) hV1 ⟨fun q h1 hq => up_ne h1, fun j hj => up_as (by omega)⟩
      refine ⟨0, _, _, m_end (k := 0) hp hlen p9 (by decide) (by decide), fun l1 l2 => ?_, Or.inr ⟨rfl, by rw [up_at]; decide⟩, hst.1, hst.2.1, hst.2.2⟩
      unfold r_round
      rw [p68, if_pos (by decide), hgo, bi_some, dq_self, if_pos rfl]
      simp only [sm_wr]
      rw [dq_self, r52_end (by rw [up_as (by decide), up_at, p67]; decide), up_as (show (66 : Nat) ≠ 68 by decide), h66, if_neg (by decide), up_as (show (67 : Nat) ≠ 68 by decide)]
  · obtain ⟨x, Mc', Mm', r1, r2, r3⟩ := m_begun (d3 := d3) (d4 := d4) hp hC hV h0 h66 hb hk hs x1 x2 x3 x4 x5 x6
    refine ⟨x, Mc', Mm', r1, fun l1 l2 => ?_, r3⟩
    unfold r_round
    rw [x6, if_neg (nI_pos (by omega)), dq_self]
    exact r2 l1 l2
theorem rl_step {Mc' Mm' : sm_M} (hp : (p = 40 ∧ d1 = 50) ∨ (p = 50 ∧ d1 = 40)) (h : rl pV p L LM nC nB W A Mc Mm) (hM : rlM nB Mc' Mm') (hc : mfC Mc' Mc) (hm : mfM Mm' Mm) : rl pV p L LM nC nB W A Mc' Mm' := by
  obtain ⟨h1, h2, h3, h4, -⟩ := h
  refine ⟨h1.o (fun q hq => hc q (by omega)) (fun q a b => hm.1 q (by omega) (by omega)) (hm.2 1 (by decide)) (hm.2 7 (by decide)), h2.o (fun q a b => hc q (by omega)) (fun q a b => hm.1 q (by omega) (by omega)) (hm.2 13 (by decide)), ?_, h4.o (fun q a b => hc q (by omega)) (fun q a b => hm.1 q (by omega) (by omega)) (hm.2 37 (by decide)) (hm.2 38 (by decide)) (hm.2 39 (by decide)), hM⟩
  rw [hm.2 29 (by decide), hc 18 (by decide), hc 25 (by decide)]
  exact h3
theorem g_end {l1 l2 l3 : Int32} (h : ¬ (l3 < l1 ∧ Mc 33 10 = 0)) : jM_goOn_4 p d1 p d3 d4 l1 l2 l3 Mc = some (l2, [p, d1, p, d3, d4], Mc) := by
  unfold jM_goOn_4
  refine sm_lp_end ?_
  show jM_goOn_4_c p d1 p d3 d4 l1 l2 l3 Mc = _
  unfold jM_goOn_4_c
  by_cases h1 : l3 < l1
  · rw [if_pos h1, if_neg (fun q => h ⟨h1, q⟩), dq_self]; rfl
  · rw [if_neg h1, dq_self]; rfl
theorem r_end {l1 l2 : Int32} (h : ¬ (l2 < l1 ∧ Mm 1 66 = 0)) : jR_run_20 l1 l2 [] Mm = some (l2, [], Mm) := by
  unfold jR_run_20
  refine sm_lp_end ?_
  show jR_run_20_c l1 l2 [] Mm = _
  unfold jR_run_20_c
  by_cases h1 : l2 < l1
  · rw [if_pos h1, if_neg (fun q => h ⟨h1, q⟩)]; rfl
  · rw [if_neg h1]; rfl
theorem m_loop (hp : (p = 40 ∧ d1 = 50) ∨ (p = 50 ∧ d1 = 40)) {n : Nat} (hn : n ≤ 1000) : ∀ (d m : Nat) (Mc Mm : sm_M), m + d = n → rl pV p L LM nC nB W A Mc Mm → ∃ (x : Int32) (Mc' Mm' : sm_M), jM_goOn_4 p d1 p d3 d4 (nI n) (nI m) (nI m) Mc = some (x, [p, d1, p, d3, d4], Mc') ∧ jR_run_20 (nI n) (nI m) [] Mm = some (x, [], Mm') ∧ rl pV p L LM nC nB W A Mc' Mm' := by
  intro d
  induction d with
  | zero =>
    intro m Mc Mm hm h
    have : ¬ nI m < nI n := nI_nlt (by omega) (by omega)
    exact ⟨nI m, Mc, Mm, g_end (fun q => this q.1), r_end (fun q => this q.1), h⟩
  | succ d ih =>
    intro m Mc Mm hm h
    have hlt : nI m < nI n := nI_lt (by omega) (by omega)
    have h66 : Mm 1 66 = Mc 33 10 := h.2.2.2.2.1
    by_cases h0 : Mc 33 10 = 0
    · obtain ⟨x, Mc', Mm', r1, r2, r3, r4, r5, r6⟩ := m_step (d3 := d3) (d4 := d4) hp h h0
      have hR := rl_step hp h r4 r5 r6
      have hr : jR_run_20_b [] (nI n, nI m, Mm) = some (.inl (nI n, nI m + x, Mm')) := by
        show jR_run_20_c (nI n) (nI m) [] Mm = _
        unfold jR_run_20_c
        rw [if_pos hlt, if_pos (h66.trans h0)]
        exact r2 (nI n) (nI m)
      have hc : jM_goOn_4_b p d1 p d3 d4 (nI n, nI m, nI m, Mc) = some (.inl (nI n, nI m + x, nI (m + 1), Mc')) := by
        show jM_goOn_4_c p d1 p d3 d4 (nI n) (nI m) (nI m) Mc = _
        unfold jM_goOn_4_c
        rw [if_pos hlt, if_pos h0, ga_in (in_gC hp), r1, bi_some, dq_self]
        rcases r3 with rfl | ⟨rfl, -⟩
        · rw [if_neg (by decide), dq_self]
          unfold jM_goOn_29
          rw [dq_self, nI_1]
        · rw [if_pos rfl, dq_self]
          unfold jM_goOn_29
          rw [dq_self, nI_1]
      unfold jM_goOn_4 jR_run_20
      rw [sm_lp_eq hc, sm_lp_eq hr]
      rcases r3 with rfl | ⟨rfl, r3⟩
      · rw [nI_1]
        exact ih (m + 1) Mc' Mm' (by omega) hR
      · rw [Int32.add_zero]
        exact ⟨nI m, Mc', Mm', g_end (fun q => r3 q.2), r_end (fun q => r3 (r4.1.symm.trans q.2)), hR⟩
    · exact ⟨nI m, Mc, Mm, g_end (fun q => h0 q.2), r_end (fun q => h0 (h66.symm.trans q.2)), h⟩
theorem q_run (hp : (p = 40 ∧ d1 = 50) ∨ (p = 50 ∧ d1 = 40)) (h : rl pV p L LM nC nB W A Mc Mm) {n : Int32} : lc_two (jA_run p d1 p d3 d4 n Mc) (jR_run n [] Mm) (Rl pV) := by
  have h' := h.up0 (v := 0)
  simp only [jR_run, sm_wr]
  generalize sm_up Mm 1 0 0 = N at h' ⊢
  unfold jA_run
  by_cases h1 : n < 0
  · refine ⟨-1, [p, d1, p, d3, d4], Mc, N, ?_, by rw [if_pos h1]; rfl, Rl.mk hp h'⟩
    rw [if_pos h1, dq_self]
    exact dq_self
  · by_cases h2 : (1000 : Int32) < n
    · refine ⟨-1, [p, d1, p, d3, d4], Mc, N, ?_, by rw [if_neg h1, if_pos h2]; rfl, Rl.mk hp h'⟩
      rw [if_neg h1, if_pos h2, dq_self]
      exact dq_self
    · obtain ⟨j, hj, rfl⟩ := nI_of2 (M := 1000) (n := 1000) (by decide) h1 (Int32.not_lt.mp h2)
      obtain ⟨x, Mc', Mm', r1, r2, r3⟩ := m_loop (d3 := d3) (d4 := d4) hp hj j 0 Mc N (by omega) h'
      refine ⟨x, [p, d1, p, d3, d4], Mc', Mm', ?_, ?_, Rl.mk hp r3⟩
      · rw [if_neg h1, if_neg h2]
        unfold jM_goOn
        rw [dq_self, show jM_goOn_4 p d1 p d3 d4 (nI j) 0 0 Mc = _ from r1, bi_some, dq_self, dq_self]
        rfl
      · rw [if_neg h1, if_neg h2]
        exact r2
end
