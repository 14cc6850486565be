/-! compile: a program -/
def wPg (p nE : Nat) (B Bm : sm_M) (L LM0 FR : List Ty) (D : sm_D) (jc jr : Option sm_S) : Prop := (∃ (nC nB cur nV nD : Nat) (LC LR : List Ty) (W : Nat → Ty) (A : Nat → Option Ty) (TE : Nat → Ty) (BD : Nat → List Ty) (Mc' Mm' : sm_M), jc = some (1, D, sm_up Mc' p 13 1) ∧ jr = some (1, [], Mm') ∧ wS p nE B Bm L LM0 FR nD [] [] nC nB cur nV nD LC LR W A TE BD Mc' Mm') ∨ (∃ (LC LR' : List Ty) (Mc' Mm' : sm_M), jc = some (0, D, Mc') ∧ jr = some (0, [], Mm') ∧ wOc p B L LC 410 0 Mc' ∧ wOr Bm LM0 LR' Mm')
section
variable {p nE d0 d1 d2 d3 d4 : Nat} {B Bm : sm_M} {L LM0 FR : List Ty} {k0 : Nat} {Ex PB : List Nat} {nC nB cur nV nD N mV k r v w e jj b m m' n h kd s1 : Nat} {LC LR : List Ty} {W : Nat → Ty} {A : Nat → Option Ty} {TE : Nat → Ty} {BD : Nat → List Ty} {Mc Mm Mc' Mm' M : sm_M} {D : sm_D} {t ta tb : Ty}
theorem c_106O (hp : 40 ≤ p) (hO : wOc p B L LC N mV M) : jW_translate_106 p d0 d1 d2 d3 d4 M = some (0, [d0, d1, d2, d3, p], sm_up M p 13 0) ∧ wOc p B L LC N mV (sm_up M p 13 0) := by
  obtain ⟨⟨a1, a2⟩, a3, a4, ⟨n, hn, a5⟩, ⟨m, hm, a6⟩, a7⟩ := hO
  refine ⟨?_, ⟨tabC_o (fun q hq => up_ne (by omega)) a1, fun i hi => by rw [up_ne (by omega)]; exact a2 i hi⟩, a3, by rw [up_as (by decide)]; exact a4, ⟨n, hn, by rw [up_as (by decide)]; exact a5⟩, ⟨m, hm, by rw [up_as (by decide)]; exact a6⟩, a7.of (fun q x y z => up_ne (by omega))⟩
  unfold jW_translate_106 jW_translate_125
  simp only [sm_wr]
  rw [a4, if_neg (by decide), eqp_self, dq_self, bo_0, up_at, bo_0]
theorem c_60O (hp : 40 ≤ p) (hO : wOc p B L LC N mV M) (x : Int32) : jW_translate_60 p d0 d1 d2 d3 d4 x M = some (0, [d0, d1, d2, d3, p], sm_up M p 13 0) := by
  unfold jW_translate_60
  refine sm_lp_end ?_
  show jW_translate_60_c p d0 d1 d2 d3 d4 x M = _
  unfold jW_translate_60_c
  rw [(c_106O hp hO).1, hO.2.2.1, if_neg (show ¬ (1 : Int32) = 0 by decide), dq_self]
  by_cases g : x < M 24 9
  · rw [if_pos g]; rfl
  · rw [if_neg g]; rfl
theorem r_83p (hO : wOr Bm LM0 LR M) (x : Int32) : jR_writeProgram_83 x [] M = some (0, [], M) := by
  unfold jR_writeProgram_83
  refine sm_lp_end ?_
  show jR_writeProgram_83_c x [] M = _
  unfold jR_writeProgram_83_c jR_writeProgram_109 jR_writeProgram_121
  rw [hO.2.2.1, if_neg (show ¬ (1 : Int32) = 0 by decide), if_neg (show ¬ (1 : Int32) = 0 by decide), bo_0]
  by_cases g : x < M 1 53
  · rw [if_pos g]; rfl
  · rw [if_neg g]; rfl
theorem w_bods (hg : [p] ∈ gC) (hp : 40 ≤ p) (hH : vH nE L B Bm) (hL : L.length + FR.length ≤ 60) (hL30 : L.length ≤ 30) (hM0 : LM0.length + 350 < 2990) (hL0 : L[0]? = some tyN) (h7 : ∀ (i : Nat) (t : Ty), L[i]? = some t → ty_pr LM0 (Bm 7 i) (some t)) : ∀ (d k0 : Nat) (PB : List Nat) (nC nB cur nV nD : Nat) (LC LR : List Ty) (W : Nat → Ty) (A : Nat → Option Ty) (TE : Nat → Ty) (BD : Nat → List Ty) (Mc Mm : sm_M), k0 + d = 40 → wS p nE B Bm L LM0 FR k0 [] PB nC nB cur nV nD LC LR W A TE BD Mc Mm → Mm 1 49 = nI 1 → wPg p nE B Bm L LM0 FR [d0, d1, d2, d3, p] (jW_translate_60 p d0 d1 d2 d3 d4 (nI k0) Mc) (jR_writeProgram_83 (nI k0) [] Mm) := by
  intro d
  induction d with
  | zero =>
    intro k0 PB nC nB cur nV nD LC LR W A TE BD Mc Mm hd hS h49
    have k4 := hS.2.2.2.2.2.1.1.2.2.2.1
    have n6 := hS.1.2.2.2.2.2
    have n2 := hS.1.2.1
    omega
  | succ d ih =>
    intro k0 PB nC nB cur nV nD LC LR W A TE BD Mc Mm hd hS h49
    have k4 := hS.2.2.2.2.2.1.1.2.2.2.1
    have n6 := hS.1.2.2.2.2.2
    have n2 := hS.1.2.1
    have c9 : Mc 24 9 = nI nD := hS.2.2.1.2.2.2.2.2
    have c15 : Mc p 15 = 0 := hS.2.2.1.2.2.2.1
    have m53 : Mm 1 53 = nI nD := hS.2.2.2.1.2.2.2.2.2
    have m47 := hS.o47
    cases PB with
    | nil =>
      have e : k0 = nD := by
        have : k0 + 0 = nD := k4
        omega
      subst e
      have nlt : ¬ nI k0 < nI k0 := nI_nlt (by omega) (by omega)
      refine Or.inl ⟨nC, nB, cur, nV, k0, LC, LR, W, A, TE, BD, Mc, Mm, ?_, ?_, hS⟩
      · unfold jW_translate_60
        refine sm_lp_end ?_
        show jW_translate_60_c p d0 d1 d2 d3 d4 (nI k0) Mc = _
        unfold jW_translate_60_c jW_translate_106 jW_translate_125
        simp only [sm_wr]
        rw [c9, if_neg nlt, dq_self, c15, if_pos rfl, eqp_self, dq_self, bo_1, up_at, bo_1]
        rfl
      · unfold jR_writeProgram_83
        refine sm_lp_end ?_
        show jR_writeProgram_83_c (nI k0) [] Mm = _
        unfold jR_writeProgram_83_c jR_writeProgram_109 jR_writeProgram_121
        rw [m53, if_neg nlt, m47, if_pos rfl, bo_1]
        rfl
    | cons b PB =>
      rw [List.length_cons] at k4
      have lt : nI k0 < nI nD := nI_lt (by omega) (by omega)
      have kk : ∀ {ρ : Type} {q : Option ρ}, sm_ck (nI k0) 40 q = q := ck_nI (by omega) (by decide)
      have ck : (nI k0).toNatClampNeg = k0 := nI_clamp (by omega)
      have hb := w_body (d0 := d0) (d1 := d1) (d2 := d2) (d3 := d3) hg hp hH hL hL30 (by omega) hL0 h7 hS (Nat.le_refl 1) (by decide) h49
      have hc : ∀ {x : Int32} {M' : sm_M}, jW_writeBody d0 d1 d2 d3 p (Mc 28 k0) (Mc 29 k0) (Mc 30 k0) Mc = some (x, [d0, d1, d2, d3, p], M') → jW_translate_60 p d0 d1 d2 d3 d4 (nI k0) Mc = jW_translate_60 p d0 d1 d2 d3 d4 (nI (k0 + 1)) M' := fun {x M'} h => by
        unfold jW_translate_60
        refine sm_lp_eq ?_
        show jW_translate_60_c p d0 d1 d2 d3 d4 (nI k0) Mc = _
        unfold jW_translate_60_c
        rw [c9, if_pos lt, c15, if_pos rfl, kk, kk, kk, ck, ga_in hg, h, bi_some, dq_self, dq_self, nI_1]
      have hr : ∀ {x : Int32} {M' : sm_M}, jR_writeBody (nI k0) [] Mm = some (x, [], M') → jR_writeProgram_83 (nI k0) [] Mm = jR_writeProgram_83 (nI (k0 + 1)) [] M' := fun {x M'} h => by
        unfold jR_writeProgram_83
        refine sm_lp_eq ?_
        show jR_writeProgram_83_c (nI k0) [] Mm = _
        unfold jR_writeProgram_83_c
        rw [m53, if_pos lt, m47, if_pos rfl, h, bi_some, dq_self, dq_self, nI_1]
      rcases hb with ⟨nC', nB', cur', nV', nD', PB2, KC, KR, W', A', TE', BD', Mc', Mm', e1, e2, e3, e4⟩ | ⟨⟨x, K, M', ox, e1, e2, e3⟩, LR', Mo, e4, e5⟩
      · rw [hc e1, hr e2]
        exact ih (k0 + 1) _ nC' nB' cur' nV' nD' _ _ W' A' TE' BD' Mc' Mm' (by omega) e3 e4
      · rw [hc e1, hr e4]
        exact Or.inr ⟨LC ++ K, LR', sm_up M' p 13 0, Mo, c_60O hp e2 _, r_83p e5 _, (c_106O (d0 := d0) (d1 := d1) (d2 := d2) (d3 := d3) (d4 := d4) hp e2).2, e5⟩
/-- the states that the program's code begins with -/
def cP0 (B : sm_M) (p : Nat) : sm_M := sm_up (sm_up (sm_up (sm_up (sm_up (sm_up (sm_up B p 6 0) p 11 0) p 12 (-1)) p 13 0) p 15 0) 24 9 0) 24 5 1
def rP0 (M : sm_M) : sm_M := sm_up (sm_up (sm_up (sm_up (sm_up (sm_up (sm_up (sm_up (sm_up (sm_up M 1 47 0) 1 39 0) 1 52 0) 1 53 0) 1 49 0) 1 50 1) 1 51 0) 42 0 0) 43 0 0) 40 0 0
theorem cP0_o {q : Nat} (h : q ≠ p) (h1 : q ≠ 24) : cP0 B p q = B q := by
  unfold cP0
  rw [up_ne h1, up_ne h1, up_ne h, up_ne h, up_ne h, up_ne h, up_ne h]
theorem cP0_p (hp : 40 ≤ p) : cP0 B p p 6 = 0 ∧ cP0 B p p 11 = 0 ∧ cP0 B p p 15 = 0 ∧ cP0 B p 24 5 = 1 ∧ cP0 B p 24 9 = 0 := by
  unfold cP0
  refine ⟨?_, ?_, ?_, up_at, ?_⟩
  · rw [up_ne (by omega), up_ne (by omega), up_as (by decide), up_as (by decide), up_as (by decide), up_as (by decide), up_at]
  · rw [up_ne (by omega), up_ne (by omega), up_as (by decide), up_as (by decide), up_as (by decide), up_at]
  · rw [up_ne (by omega), up_ne (by omega), up_at]
  · rw [up_as (by decide), up_at]
theorem rP0_o {q : Nat} (h : q ≠ 1) (h1 : q ≠ 40) (h2 : q ≠ 42) (h3 : q ≠ 43) : rP0 M q = M q := by
  unfold rP0
  rw [up_ne h1, up_ne h3, up_ne h2, up_ne h, up_ne h, up_ne h, up_ne h, up_ne h, up_ne h, up_ne h]
theorem rP0_j {j : Nat} (h1 : j ≠ 39) (h2 : j < 47 ∨ 53 < j) : rP0 M 1 j = M 1 j := by
  unfold rP0
  rw [up_ne (by decide), up_ne (by decide), up_ne (by decide), up_as (by omega), up_as (by omega), up_as (by omega), up_as (by omega), up_as (by omega), up_as h1, up_as (by omega)]
theorem rP0_1 : rP0 M 1 47 = 0 ∧ rP0 M 1 39 = 0 ∧ rP0 M 1 52 = 0 ∧ rP0 M 1 53 = 0 ∧ rP0 M 1 49 = 0 ∧ rP0 M 1 50 = 1 ∧ rP0 M 1 51 = 0 ∧ rP0 M 42 0 = 0 ∧ rP0 M 43 0 = 0 ∧ rP0 M 40 0 = 0 := by
  unfold rP0
  refine ⟨?_, ?_, ?_, ?_, ?_, ?_, ?_, ?_, ?_, up_at⟩
  · rw [up_ne (by decide), up_ne (by decide), up_ne (by decide), up_as (by decide), up_as (by decide), up_as (by decide), up_as (by decide), up_as (by decide), up_as (by decide), up_at]
  · rw [up_ne (by decide), up_ne (by decide), up_ne (by decide), up_as (by decide), up_as (by decide), up_as (by decide), up_as (by decide), up_as (by decide), up_at]
  · rw [up_ne (by decide), up_ne (by decide), up_ne (by decide), up_as (by decide), up_as (by decide), up_as (by decide), up_as (by decide), up_at]
  · rw [up_ne (by decide), up_ne (by decide), up_ne (by decide), up_as (by decide), up_as (by decide), up_as (by decide), up_at]
  · rw [up_ne (by decide), up_ne (by decide), up_ne (by decide), up_as (by decide), up_as (by decide), up_at]
  · rw [up_ne (by decide), up_ne (by decide), up_ne (by decide), up_as (by decide), up_at]
  · rw [up_ne (by decide), up_ne (by decide), up_ne (by decide), up_at]
  · rw [up_ne (by decide), up_ne (by decide), up_at]
  · rw [up_ne (by decide), up_at]
end
