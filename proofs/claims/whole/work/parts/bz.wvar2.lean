/-! compile: a variable -/
section
variable {p nE d0 d1 d2 d3 : Nat} {B Bm : sm_M} {L LM0 FR : List Ty} {k0 : Nat} {Ex PB : List Nat} {nC nB cur nV nD N mV k r v e : Nat} {LC LR : List Ty} {W : Nat → Ty} {A : Nat → Option Ty} {TE : Nat → Ty} {BD : Nat → List Ty} {Mc Mm Mc' Mm' M : sm_M} {D : sm_D} {a b c x x' y y' z z' : Int32} {t : Ty}
theorem w_67 {i h : Nat} (hg : [p] ∈ gC) (hp : 40 ≤ p) (hr : r < 390) (hS : wS p nE B Bm L LM0 FR k0 Ex PB nC nB cur nV nD LC LR W A TE BD Mc Mm) (hLN : LC.length ≤ N) (hi : i < nV) (h3 : nV ≤ 301) (hh : h ≤ 400) (hT : ∃ j, TE i = tyP (TE j) t) (m41 : ty_pr LR (Mm 41 i) (some t)) (m49 : Mm 1 49 = nI r) : wZ p nE B Bm L LM0 FR k0 Ex PB nB cur nV nD LC LR A TE BD [d0, d1, d2, d3, p] N t r Mm (jW_writeVariable_67 d0 d1 d2 d3 p (nI i) (nI h) Mc) (if h = 0 then (sm_bi (jR_emit 5 2 1 1 [] Mm) (fun x1 E1 M1 => sm_dq E1 [] (jR_variable_68 (nI 0) (nI i) [] M1))) else jR_variable_68 (nI h) (nI i) [] Mm) := by
  have m41' := m41
  by_cases gh : h = 0
  · subst gh
    unfold jW_writeVariable_67 jR_variable_68
    have h0 : ¬ (0 : Int32) < nI 0 := by decide
    rw [if_pos (show nI 0 = 0 from nI_0), if_pos rfl, ga_in hg]
    simp only [if_neg h0]
    rcases w_put (D := [d0, d1, d2, d3, p]) (o := 5) (a := 2) (b := 1) (c := 1) (c' := 1) hg hp hS hLN (by decide) rfl rfl rfl (fLoad rg2 rg1 (Or.inr rfl)) (fun _ => rfl) (fun q => absurd q (by decide)) with ⟨W', Mc2, Mm2, e1, e2, e3, e4, e5, e6⟩ | ⟨Mc2, e1, e2, e3, e4⟩
    · have e1' : jC_put p 5 2 1 1 [d0, d1, d2, d3, p] Mc = some (0, [d0, d1, d2, d3, p], Mc2) := e1
      have e2' : jR_emit 5 2 1 1 [] Mm = some (0, [], Mm2) := e2
      obtain ⟨x, f1, f2, f3⟩ := w_135 (d0 := d0) (d1 := d1) (d2 := d2) (d3 := d3) hr e3 hi h3 (by rw [e6 49 (by decide)]; exact m49) hT (by rw [e5 41 (by decide)]; exact m41)
      refine Or.inl ⟨nC + 1, W', x, Mm2 41 i, Mc2, Mm2, ?_, ?_, e3, f2, by rw [e5 41 (by decide)]; exact m41, e5, e6⟩
      · rw [e1', bi_some, dq_self, dq_self, f1]
      · rw [e2', bi_some, dq_self, f3]
    · have e1' : jC_put p 5 2 1 1 [d0, d1, d2, d3, p] Mc = some (0, [d0, d1, d2, d3, p], Mc2) := e1
      have e3' : jR_emit 5 2 1 1 [] Mm = some (0, [], sm_up Mm 1 47 1) := e3
      refine Or.inr ⟨?_, sm_up Mm 1 47 1, sm_up Mm 1 47 1 41 i, ?_, e4⟩
      · rw [e1', bi_some, dq_self, dq_self]
        exact c_135O hi h3 e2
      · rw [e3', bi_some, dq_self, r_111O (by omega) hr (by rw [up_as (by decide)]; exact m49)]
  · unfold jW_writeVariable_67 jR_variable_68
    rw [if_neg (fun q => gh (nI_inj (by omega) (by decide) (show nI h = nI 0 from q.trans nI_0.symm))), if_neg gh, if_pos (show (0 : Int32) < nI h from nI_lt (a := 0) (by omega) (by omega)), ga_in hg]
    rcases w_put (D := [d0, d1, d2, d3, p]) (o := 5) (a := 4) (b := 1) (c := 0) (c' := 0) hg hp hS hLN (by decide) rfl rfl rfl (fLoad rg4 rg1 (Or.inl rfl)) (fun _ => rfl) (fun q => absurd q (by decide)) with ⟨W', Mc2, Mm2, e1, e2, e3, e4, e5, e6⟩ | ⟨Mc2, e1, e2, e3, e4⟩
    · have e1' : jC_put p 5 4 1 0 [d0, d1, d2, d3, p] Mc = some (0, [d0, d1, d2, d3, p], Mc2) := e1
      have e2' : jR_emit 5 4 1 0 [] Mm = some (0, [], Mm2) := e2
      rw [e1', bi_some, dq_self, dq_self, e2', bi_some, dq_self]
      exact w_100 hg hp hr hi h3 hh hLN hT Mm m41 m49 (h - 1) 1 (nC + 1) W' Mc2 Mm2 (by omega) e3 e5 e6
    · have e1' : jC_put p 5 4 1 0 [d0, d1, d2, d3, p] Mc = some (0, [d0, d1, d2, d3, p], Mc2) := e1
      have e3' : jR_emit 5 4 1 0 [] Mm = some (0, [], sm_up Mm 1 47 1) := e3
      rw [e1', bi_some, dq_self, dq_self, e3', bi_some, dq_self]
      exact Or.inr ⟨c_100O hg hp hi h3 hh (h - 1) 1 Mc2 (by omega) e2, sm_up Mm 1 47 1, _, r_83O (by omega) hh hr (by rw [up_as (by decide)]; exact m49) up_at (h - 1) 1 (by omega), e4⟩
/-- a straight piece of work that ends with an answer is an expression's writing -/
theorem wZ.q {jc jr : Option sm_S} (hk : k < 400) (hr : r < 390) (h48 : Mm 1 48 = nI (k + 1)) (h47 : Mm 1 47 = 0) (h51 : Mm 1 51 = nI v) (h49 : Mm 1 49 = nI r) (hd : jR_doNext [] Mm = sm_bi jr (fun x E M => sm_dq E [] (some (0, [], M)))) (h : wZ p nE B Bm L LM0 FR k0 Ex PB nB cur nV nD LC LR A TE BD [d0, d1, d2, d3, p] N t r (sm_up Mm 1 48 (nI k)) jc jr) : wQ p nE B Bm L LM0 FR k0 Ex PB nV LC LR TE BD [d0, d1, d2, d3, p] N t v k r Mm (sm_bi jc (fun x E M => sm_dq E [d0, d1, d2, d3, p] (some (x, [d0, d1, d2, d3, p], M)))) (jR_writeAll_12 [] Mm) := by
  rcases h with ⟨nC', W', x, y, Mc', Mm', e1, e2, e3, e4, e5, e6, e7⟩ | ⟨⟨x, K, M', ox, e1, e2, e3⟩, Mo, y, e4, e5⟩
  · refine Or.inl ⟨x, nC', nB, cur, nV, nD, [], [], [], W', A, TE, BD, Mc', rPu Mm' r y, by rw [e1, bi_some, dq_self], ?_, by rw [List.append_nil, List.append_nil, List.append_nil]; exact w_fin e3, by rw [List.append_nil]; exact e4, ⟨by rw [rPu_1 (by decide), e7 48 (by decide), up_at], rPu_49, by rw [rPu_1 (by decide), e7 51 (by decide), up_as (by decide)]; exact h51, by rw [rPu_39, upd_at, List.append_nil]; exact e5⟩, ⟨fun j hj => ?_, fun j hj => ?_⟩, Nat.le_refl _, fun i _ => ⟨rfl, rfl, by rw [rPu_o (by decide) (by decide), e6 40 (by decide), up_ne (by decide)]⟩⟩
    · refine w_loop hk h48 h47 (x := 0) ?_
      rw [hd, e2, bi_some, dq_self]
    · rw [rPu_o (by decide) (by decide), rPu_o (by decide) (by decide), rPu_o (by decide) (by decide), e6 36 (by decide), e6 37 (by decide), e6 38 (by decide), up_ne (by decide), up_ne (by decide), up_ne (by decide)]
      exact ⟨rfl, rfl, rfl⟩
    · rw [rPu_39, upd_ne (by omega), e6 39 (by decide), up_ne (by decide)]
  · refine Or.inr ⟨⟨x, K, M', ox, by rw [e1, bi_some, dq_self], e2, e3⟩, LR, rPu Mo r y, r + 1, ?_, wOr_f e5, rPu_49, by omega, by omega⟩
    rw [w_loop (x := 0) (Mm' := rPu Mo r y) hk h48 h47 (by rw [hd, e4, bi_some, dq_self]), w_stop (by rw [rPu_1 (by decide)]; exact e5.2.2.1)]
theorem w_vari {u : Nat} (hg : [p] ∈ gC) (hp : 40 ≤ p) (hH : vH nE L B Bm) (hS : wS p nE B Bm L LM0 FR k0 Ex PB nC nB cur nV nD LC LR W A TE BD Mc Mm) (hLN : LC.length ≤ N) (he : e < nE) (hk1 : B 10 e = nI 1) (hu : u ≤ 20) (h11 : B 11 e = nI u) (hv : v < nV) (hget : (BD v)[u]? = some t) (hk : k < 400) (hr : r < 390) (h48 : Mm 1 48 = nI (k + 1)) (h36 : Mm 36 k = nI 0) (h37 : Mm 37 k = nI e) (h49 : Mm 1 49 = nI r) (h51 : Mm 1 51 = nI v) : wQ p nE B Bm L LM0 FR k0 Ex PB nV LC LR TE BD [d0, d1, d2, d3, p] N t v k r Mm (sm_bi (sm_ga [p] gC (jW_writeVariable d0 d1 d2 d3 p (B 11 e) (nI v) Mc)) (fun x6 E6 M6 => sm_dq E6 [d0, d1, d2, d3, p] (some (x6, [d0, d1, d2, d3, p], M6)))) (jR_writeAll_12 [] Mm) := by
  have hl := hH.1
  obtain ⟨q1, q2, q3, q4, q5⟩ := hH.2.1 e he
  have ke : ∀ {ρ : Type} {q : Option ρ}, sm_ck (nI e) 40 q = q := ck_nI (by omega) (by decide)
  have ce : (nI e).toNatClampNeg = e := nI_clamp (by omega)
  have h47 := hS.2.2.2.1.2.2.2.1
  have h3 : nV ≤ 301 := by
    have := hS.1.2.2.2.2.1
    have := ct4_le (o := Mm 29) nC
    have := hS.1.1
    omega
  have hS1 : wS p nE B Bm L LM0 FR k0 Ex PB nC nB cur nV nD LC LR W A TE BD Mc (sm_up Mm 1 48 (nI k)) := w_it hS
  have m12 : sm_up Mm 1 48 (nI k) 12 e = nI 1 := by rw [up_ne (by decide), hS.2.2.2.2.2.2.2.2.2.1 12 (by decide), q1]; exact hk1
  have m13 : sm_up Mm 1 48 (nI k) 13 e = nI u := by rw [up_ne (by decide), hS.2.2.2.2.2.2.2.2.2.1 13 (by decide), q2]; exact h11
  have z51 : sm_up Mm 1 48 (nI k) 1 51 = nI v := by rw [up_as (by decide)]; exact h51
  have hdn := (r_item hk h48 h36 h37).1 rfl
  obtain ⟨i', h', r1, r2, r3, r4, r5, r6, r7, r8, r9⟩ := w_walk (d0 := d0) (d1 := d1) (d2 := d2) (d3 := d3) hp hS1 v u 0 hv (by omega) hu hget
  have r8' : jW_writeVariable_8 d0 d1 d2 d3 p (nI v) (nI u) 0 Mc = jW_writeVariable_67 d0 d1 d2 d3 p (nI i') (nI h') Mc := r8
  have r9' : jR_variable_10 0 (nI v) (nI u) [] (sm_up Mm 1 48 (nI k)) = (if h' = 0 then (sm_bi (jR_emit 5 2 1 1 [] (sm_up Mm 1 48 (nI k))) (fun x1 E1 M1 => sm_dq E1 [] (jR_variable_68 (nI 0) (nI i') [] M1))) else jR_variable_68 (nI h') (nI i') [] (sm_up Mm 1 48 (nI k))) := r9
  have hw := w_67 (d0 := d0) (d1 := d1) (d2 := d2) (d3 := d3) hg hp hr hS1 hLN r2 h3 (show h' ≤ 400 by omega) r4 r5 (show sm_up Mm 1 48 (nI k) 1 49 = nI r by rw [up_as (by decide)]; exact h49)
  rw [ga_in hg]
  unfold jW_writeVariable
  rw [dq_self, h11, r8']
  refine wZ.q hk hr h48 h47 h51 h49 ?_ hw
  rw [hdn]
  unfold jR_write jR_variable
  simp only [ke, ce, m12, m13, z51, r9']
  rw [if_neg (show ¬ nI 1 = 0 by decide), if_pos (show nI 1 = 1 from rfl)]
  generalize (if h' = 0 then (sm_bi (jR_emit 5 2 1 1 [] (sm_up Mm 1 48 (nI k))) (fun x1 E1 M1 => sm_dq E1 [] (jR_variable_68 (nI 0) (nI i') [] M1))) else jR_variable_68 (nI h') (nI i') [] (sm_up Mm 1 48 (nI k))) = R
  cases R with
  | none => rfl
  | some s =>
    obtain ⟨s1, s2, s3⟩ := s
    show sm_bi (sm_dq s2 [] (some (0, [], s3))) _ = sm_dq s2 [] (some (0, [], s3))
    unfold sm_dq
    by_cases g : s2 = []
    · rw [if_pos g]; rfl
    · rw [if_neg g]; rfl
end
