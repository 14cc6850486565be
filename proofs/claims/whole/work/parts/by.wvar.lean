/-! compile: a variable's code -/
section
variable {p nE d0 d1 d2 d3 : Nat} {B Bm : sm_M} {L LM0 FR : List Ty} {k0 : Nat} {Ex PB : List Nat} {nC nB cur nV nD N mV k r v e : Nat} {LC LR : List Ty} {W : Nat → Ty} {A : Nat → Option Ty} {TE : Nat → Ty} {BD : Nat → List Ty} {Mc Mm Mc' Mm' M : sm_M} {D : sm_D} {a b c x x' y y' z z' : Int32} {t : Ty}
/-- some instructions, then an answer -/
def wZ (p nE : Nat) (B Bm : sm_M) (L LM0 FR : List Ty) (k0 : Nat) (Ex PB : List Nat) (nB cur nV nD : Nat) (LC LR : List Ty) (A : Nat → Option Ty) (TE : Nat → Ty) (BD : Nat → List Ty) (D : sm_D) (N : Nat) (t : Ty) (r : Nat) (Mm : sm_M) (jc jr : Option sm_S) : Prop := (∃ (nC' : Nat) (W' : Nat → Ty) (x y : Int32) (Mc' Mm' : sm_M), jc = some (x, D, Mc') ∧ jr = some (0, [], rPu Mm' r y) ∧ wS p nE B Bm L LM0 FR k0 Ex PB nC' nB cur nV nD LC LR W' A TE BD Mc' Mm' ∧ ty_pr LC x (some t) ∧ ty_pr LR y (some t) ∧ (∀ q, 35 < q → Mm' q = Mm q) ∧ ∀ j, j ≠ 39 → Mm' 1 j = Mm 1 j) ∨ (cOv p B L LC N nV D jc ∧ ∃ (Mo : sm_M) (y : Int32), jr = some (0, [], rPu Mo r y) ∧ wOr Bm LM0 LR Mo)
/-- the LOADs of the class that does not fit -/
theorem c_135O {i : Nat} (hi : i < mV) (h3 : mV ≤ 301) (hO : wOc p B L LC N mV M) : cOv p B L LC N mV [d0, d1, d2, d3, p] (jW_writeVariable_135 d0 d1 d2 d3 p (nI i) M) := by
  obtain ⟨o, ho, -⟩ := hO.1.2 i (Or.inl hi)
  obtain ⟨-, y, oy, e1, e2⟩ := c_anyP hO.1.1 ho
  unfold jW_writeVariable_135
  rw [ck_nI (by omega) (by decide), nI_clamp (by omega), e1, bi_some, dq_self]
  exact cOv.ret hO e2
theorem c_100O {i h : Nat} (hg : [p] ∈ gC) (hp : 40 ≤ p) (hi : i < mV) (h3 : mV ≤ 301) (hh : h ≤ 400) : ∀ (d j : Nat) (M : sm_M), j + d = h → wOc p B L LC N mV M → cOv p B L LC N mV [d0, d1, d2, d3, p] (jW_writeVariable_100 d0 d1 d2 d3 p (nI i) (nI h) (nI j) M) := by
  intro d
  induction d with
  | zero =>
    intro j M hj hO
    have ej : j = h := by omega
    subst ej
    obtain ⟨M', e1, e2⟩ := c_putO (o := 5) (a := 2) (b := 4) (c := 1) (D := [d0, d1, d2, d3, p]) hg hp hO (by decide) (fun q => absurd q (by decide))
    have e1' : jC_put p 5 2 4 1 [d0, d1, d2, d3, p] M = some (0, [d0, d1, d2, d3, p], M') := e1
    obtain ⟨x, K, M2, ox, f1, f2, f3⟩ := c_135O (d0 := d0) (d1 := d1) (d2 := d2) (d3 := d3) hi h3 e2
    refine ⟨x, K, M2, ox, ?_, f2, f3⟩
    unfold jW_writeVariable_100
    refine sm_lp_end ?_
    show jW_writeVariable_100_c d0 d1 d2 d3 p (nI i) (nI j) (nI j) M = _
    unfold jW_writeVariable_100_c
    rw [if_neg (nI_nlt (Nat.le_refl _) (by omega)), ga_in hg, e1', bi_some, dq_self, dq_self, f1]
    rfl
  | succ d ih =>
    intro j M hj hO
    obtain ⟨M', e1, e2⟩ := c_putO (o := 5) (a := 4) (b := 4) (c := 0) (D := [d0, d1, d2, d3, p]) hg hp hO (by decide) (fun q => absurd q (by decide))
    have e1' : jC_put p 5 4 4 0 [d0, d1, d2, d3, p] M = some (0, [d0, d1, d2, d3, p], M') := e1
    have := ih (j + 1) M' (by omega) e2
    have es : jW_writeVariable_100 d0 d1 d2 d3 p (nI i) (nI h) (nI j) M = jW_writeVariable_100 d0 d1 d2 d3 p (nI i) (nI h) (nI (j + 1)) M' := by
      unfold jW_writeVariable_100
      refine sm_lp_eq ?_
      show jW_writeVariable_100_c d0 d1 d2 d3 p (nI i) (nI h) (nI j) M = _
      unfold jW_writeVariable_100_c
      rw [if_pos (nI_lt (by omega) (by omega)), ga_in hg, e1', bi_some, dq_self, dq_self, nI_1]
    rw [es]
    exact this
/-- the LOADs of the reference that does not fit -/
theorem r_111O {i : Nat} (hi : i < 301) (hr : r < 390) (h49 : M 1 49 = nI r) : jR_variable_111 (nI i) [] M = some (0, [], rPu M r (M 41 i)) := by
  unfold jR_variable_111
  rw [ck_nI (by omega) (by decide), nI_clamp (by omega), r_fin (by omega) h49, bi_some, dq_self]
theorem r_83O {i h : Nat} (hi : i < 301) (hh : h ≤ 400) (hr : r < 390) (h49 : M 1 49 = nI r) (h47 : M 1 47 = 1) : ∀ (d j : Nat), j + d = h → jR_variable_83 (nI h) (nI i) (nI j) [] M = some (0, [], rPu M r (M 41 i)) := by
  intro d
  induction d with
  | zero =>
    intro j hj
    have ej : j = h := by omega
    subst ej
    unfold jR_variable_83
    refine sm_lp_end ?_
    show jR_variable_83_c (nI j) (nI i) (nI j) [] M = _
    unfold jR_variable_83_c
    rw [if_neg (nI_nlt (Nat.le_refl _) (by omega)), em_ov h47, bi_some, dq_self, r_111O hi hr h49]
    rfl
  | succ d ih =>
    intro j hj
    rw [← ih (j + 1) (by omega)]
    unfold jR_variable_83
    refine sm_lp_eq ?_
    show jR_variable_83_c (nI h) (nI i) (nI j) [] M = _
    unfold jR_variable_83_c
    rw [if_pos (nI_lt (by omega) (by omega)), em_ov h47, bi_some, dq_self, dq_self, nI_1]
theorem w_135 {i : Nat} (hr : r < 390) (hS : wS p nE B Bm L LM0 FR k0 Ex PB nC nB cur nV nD LC LR W A TE BD Mc Mm) (hi : i < nV) (h3 : nV ≤ 301) (h49 : Mm 1 49 = nI r) (hT : ∃ j, TE i = tyP (TE j) t) (h41 : ty_pr LR (Mm 41 i) (some t)) : ∃ x, jW_writeVariable_135 d0 d1 d2 d3 p (nI i) Mc = some (x, [d0, d1, d2, d3, p], Mc) ∧ ty_pr LC x (some t) ∧ jR_variable_111 (nI i) [] Mm = some (0, [], rPu Mm r (Mm 41 i)) := by
  obtain ⟨q1, q2, -⟩ := hS.2.2.2.2.2.2.1 i hi
  obtain ⟨j, ej⟩ := hT
  rw [ej] at q1
  obtain ⟨x1, x2, x3, f1, f2, f3, p1, p2, p3⟩ := c_parts hS.2.1.1 q1
  refine ⟨x2, ?_, p2, r_111O (by omega) hr h49⟩
  unfold jW_writeVariable_135
  rw [ck_nI (by omega) (by decide), nI_clamp (by omega), f2, bi_some, dq_self]
theorem rg1 : reg5 1 := ⟨1, by decide, by decide, rfl⟩
theorem rg2 : reg5 2 := ⟨2, by decide, by decide, rfl⟩
theorem rg3 : reg5 3 := ⟨3, by decide, by decide, rfl⟩
theorem rg4 : reg5 4 := ⟨4, by decide, by decide, rfl⟩
theorem rg5 : reg5 5 := ⟨5, by decide, by decide, rfl⟩
theorem fLoad {a b c : Int32} (ha : reg5 a) (hb : reg5 b) (hc : c = 0 ∨ c = 1) : frm (nI 5) a b c := Or.inr (Or.inr (Or.inl ⟨rfl, ha, hb, hc⟩))
/-- the loop of LOADs -/
theorem w_100 {i h : Nat} (hg : [p] ∈ gC) (hp : 40 ≤ p) (hr : r < 390) (hi : i < nV) (h3 : nV ≤ 301) (hh : h ≤ 400) (hLN : LC.length ≤ N) (hT : ∃ j, TE i = tyP (TE j) t) (Mb : sm_M) (hb41 : ty_pr LR (Mb 41 i) (some t)) (hb49 : Mb 1 49 = nI r) : ∀ (d j nC : Nat) (W : Nat → Ty) (Mc Mm : sm_M), j + d = h → wS p nE B Bm L LM0 FR k0 Ex PB nC nB cur nV nD LC LR W A TE BD Mc Mm → (∀ q, 35 < q → Mm q = Mb q) → (∀ j, j ≠ 39 → Mm 1 j = Mb 1 j) → wZ p nE B Bm L LM0 FR k0 Ex PB nB cur nV nD LC LR A TE BD [d0, d1, d2, d3, p] N t r Mb (jW_writeVariable_100 d0 d1 d2 d3 p (nI i) (nI h) (nI j) Mc) (jR_variable_83 (nI h) (nI i) (nI j) [] Mm) := by
  intro d
  induction d with
  | zero =>
    intro j nC W Mc Mm hj hS hq h1
    have ej : j = h := by omega
    subst ej
    have m49 : Mm 1 49 = nI r := by rw [h1 49 (by decide)]; exact hb49
    have m41 : ty_pr LR (Mm 41 i) (some t) := by rw [hq 41 (by decide)]; exact hb41
    rcases w_put (D := [d0, d1, d2, d3, p]) (o := 5) (a := 2) (b := 4) (c := 1) (c' := 1) hg hp hS hLN (by decide) rfl rfl rfl (fLoad rg2 rg4 (Or.inr rfl)) (fun _ => rfl) (fun q => absurd q (by decide)) with ⟨W', Mc2, Mm2, e1, e2, e3, e4, e5, e6⟩ | ⟨Mc2, e1, e2, e3, e4⟩
    · have e1' : jC_put p 5 2 4 1 [d0, d1, d2, d3, p] Mc = some (0, [d0, d1, d2, d3, p], Mc2) := e1
      have e2' : jR_emit 5 2 4 1 [] Mm = some (0, [], Mm2) := e2
      obtain ⟨x, f1, f2, f3⟩ := w_135 (d0 := d0) (d1 := d1) (d2 := d2) (d3 := d3) hr e3 hi h3 (by rw [e6 49 (by decide)]; exact m49) hT (by rw [e5 41 (by decide)]; exact m41)
      refine Or.inl ⟨nC + 1, W', x, Mm2 41 i, Mc2, Mm2, ?_, ?_, e3, f2, by rw [e5 41 (by decide)]; exact m41, fun q z => (e5 q z).trans (hq q z), fun j z => (e6 j z).trans (h1 j z)⟩
      · unfold jW_writeVariable_100
        refine sm_lp_end ?_
        show jW_writeVariable_100_c d0 d1 d2 d3 p (nI i) (nI j) (nI j) Mc = _
        unfold jW_writeVariable_100_c
        rw [if_neg (nI_nlt (Nat.le_refl _) (by omega)), ga_in hg, e1', bi_some, dq_self, dq_self, f1]
        rfl
      · unfold jR_variable_83
        refine sm_lp_end ?_
        show jR_variable_83_c (nI j) (nI i) (nI j) [] Mm = _
        unfold jR_variable_83_c
        rw [if_neg (nI_nlt (Nat.le_refl _) (by omega)), e2', bi_some, dq_self, f3]
        rfl
    · have e1' : jC_put p 5 2 4 1 [d0, d1, d2, d3, p] Mc = some (0, [d0, d1, d2, d3, p], Mc2) := e1
      have e3' : jR_emit 5 2 4 1 [] Mm = some (0, [], sm_up Mm 1 47 1) := e3
      refine Or.inr ⟨?_, sm_up Mm 1 47 1, sm_up Mm 1 47 1 41 i, ?_, e4⟩
      · obtain ⟨x, K, M2, ox, f1, f2, f3⟩ := c_135O (d0 := d0) (d1 := d1) (d2 := d2) (d3 := d3) hi h3 e2
        refine ⟨x, K, M2, ox, ?_, f2, f3⟩
        unfold jW_writeVariable_100
        refine sm_lp_end ?_
        show jW_writeVariable_100_c d0 d1 d2 d3 p (nI i) (nI j) (nI j) Mc = _
        unfold jW_writeVariable_100_c
        rw [if_neg (nI_nlt (Nat.le_refl _) (by omega)), ga_in hg, e1', bi_some, dq_self, dq_self, f1]
        rfl
      · unfold jR_variable_83
        refine sm_lp_end ?_
        show jR_variable_83_c (nI j) (nI i) (nI j) [] Mm = _
        unfold jR_variable_83_c
        rw [if_neg (nI_nlt (Nat.le_refl _) (by omega)), e3', bi_some, dq_self, r_111O (by omega) hr (by rw [up_as (by decide)]; exact m49)]
        rfl
  | succ d ih =>
    intro j nC W Mc Mm hj hS hq h1
    have m49 : Mm 1 49 = nI r := by rw [h1 49 (by decide)]; exact hb49
    rcases w_put (D := [d0, d1, d2, d3, p]) (o := 5) (a := 4) (b := 4) (c := 0) (c' := 0) hg hp hS hLN (by decide) rfl rfl rfl (fLoad rg4 rg4 (Or.inl rfl)) (fun _ => rfl) (fun q => absurd q (by decide)) with ⟨W', Mc2, Mm2, e1, e2, e3, e4, e5, e6⟩ | ⟨Mc2, e1, e2, e3, e4⟩
    · have e1' : jC_put p 5 4 4 0 [d0, d1, d2, d3, p] Mc = some (0, [d0, d1, d2, d3, p], Mc2) := e1
      have e2' : jR_emit 5 4 4 0 [] Mm = some (0, [], Mm2) := e2
      have := ih (j + 1) (nC + 1) W' Mc2 Mm2 (by omega) e3 (fun q z => (e5 q z).trans (hq q z)) (fun j z => (e6 j z).trans (h1 j z))
      have s1 : jW_writeVariable_100 d0 d1 d2 d3 p (nI i) (nI h) (nI j) Mc = jW_writeVariable_100 d0 d1 d2 d3 p (nI i) (nI h) (nI (j + 1)) Mc2 := by
        unfold jW_writeVariable_100
        refine sm_lp_eq ?_
        show jW_writeVariable_100_c d0 d1 d2 d3 p (nI i) (nI h) (nI j) Mc = _
        unfold jW_writeVariable_100_c
        rw [if_pos (nI_lt (by omega) (by omega)), ga_in hg, e1', bi_some, dq_self, dq_self, nI_1]
      have s2 : jR_variable_83 (nI h) (nI i) (nI j) [] Mm = jR_variable_83 (nI h) (nI i) (nI (j + 1)) [] Mm2 := by
        unfold jR_variable_83
        refine sm_lp_eq ?_
        show jR_variable_83_c (nI h) (nI i) (nI j) [] Mm = _
        unfold jR_variable_83_c
        rw [if_pos (nI_lt (by omega) (by omega)), e2', bi_some, dq_self, dq_self, nI_1]
      rw [s1, s2]
      exact this
    · have e1' : jC_put p 5 4 4 0 [d0, d1, d2, d3, p] Mc = some (0, [d0, d1, d2, d3, p], Mc2) := e1
      have e3' : jR_emit 5 4 4 0 [] Mm = some (0, [], sm_up Mm 1 47 1) := e3
      have s1 : jW_writeVariable_100 d0 d1 d2 d3 p (nI i) (nI h) (nI j) Mc = jW_writeVariable_100 d0 d1 d2 d3 p (nI i) (nI h) (nI (j + 1)) Mc2 := by
        unfold jW_writeVariable_100
        refine sm_lp_eq ?_
        show jW_writeVariable_100_c d0 d1 d2 d3 p (nI i) (nI h) (nI j) Mc = _
        unfold jW_writeVariable_100_c
        rw [if_pos (nI_lt (by omega) (by omega)), ga_in hg, e1', bi_some, dq_self, dq_self, nI_1]
      have s2 : jR_variable_83 (nI h) (nI i) (nI j) [] Mm = jR_variable_83 (nI h) (nI i) (nI (j + 1)) [] (sm_up Mm 1 47 1) := by
        unfold jR_variable_83
        refine sm_lp_eq ?_
        show jR_variable_83_c (nI h) (nI i) (nI j) [] Mm = _
        unfold jR_variable_83_c
        rw [if_pos (nI_lt (by omega) (by omega)), e3', bi_some, dq_self, dq_self, nI_1]
      rw [s1, s2]
      exact Or.inr ⟨c_100O hg hp hi h3 hh d (j + 1) Mc2 (by omega) e2, sm_up Mm 1 47 1, _, r_83O (by omega) hh hr (by rw [up_as (by decide)]; exact m49) up_at d (j + 1) (by omega), e4⟩
end
