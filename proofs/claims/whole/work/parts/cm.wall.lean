/-! compile: every expression -/
section
variable {p nE d0 d1 d2 d3 : Nat} {B Bm : sm_M} {L LM0 FR : List Ty} {k0 : Nat} {Ex PB : List Nat} {nC nB cur nV nD N mV k r v e m m' n h kd s1 : Nat} {LC LR : List Ty} {W : Nat → Ty} {A : Nat → Option Ty} {TE : Nat → Ty} {BD : Nat → List Ty} {Mc Mm Mc' Mm' M : sm_M} {D : sm_D} {t ta tb : Ty}
theorem cOv.wrap {jc : Option sm_S} (hg : [p] ∈ gC) (h : cOv p B L LC N mV D jc) : cOv p B L LC N mV D (sm_bi (sm_ga [p] gC jc) (fun x E M => sm_dq E D (some (x, D, M)))) := by
  obtain ⟨x, K, M', ox, rfl, h2, h3⟩ := h
  refine ⟨x, K, M', ox, ?_, h2, h3⟩
  rw [ga_in hg, bi_some, dq_self]
theorem wQ.wrap {jc jr : Option sm_S} (hg : [p] ∈ gC) (h : wQ p nE B Bm L LM0 FR k0 Ex PB nV LC LR TE BD D N t v k r Mm jc jr) : wQ p nE B Bm L LM0 FR k0 Ex PB nV LC LR TE BD D N t v k r Mm (sm_bi (sm_ga [p] gC jc) (fun x E M => sm_dq E D (some (x, D, M)))) jr := by
  rcases h with ⟨x, nC', nB', cur', nV', nD', PB2, KC, KR, W', A', TE', BD', Mc1, Mm1, rfl, e2⟩ | ⟨h1, h2⟩
  · refine Or.inl ⟨x, nC', nB', cur', nV', nD', PB2, KC, KR, W', A', TE', BD', Mc1, Mm1, ?_, e2⟩
    rw [ga_in hg, bi_some, dq_self]
  · exact Or.inr ⟨h1.wrap hg, h2⟩
theorem w_all (hg : [p] ∈ gC) (hp : 40 ≤ p) (hH : vH nE L B Bm) (hL : L.length + FR.length ≤ 60) (hL30 : L.length ≤ 30) (hM0 : LM0.length + 300 + k0 < 2990) (hL0 : L[0]? = some tyN) (h7 : ∀ (i : Nat) (t : Ty), L[i]? = some t → ty_pr LM0 (Bm 7 i) (some t)) : ∀ n : Nat, n ≤ 8 → wP p nE d0 d1 d2 d3 B Bm L LM0 FR k0 n := by
  intro n
  induction n with
  | zero =>
    intro _ Ex PB nC nB cur nV nD LC LR W A TE BD Mc Mm e v m k r t hS he hgh
    obtain ⟨g, hg1, hg2⟩ := hgh
    obtain ⟨k, h, a1, a2, a3, a4, a5, -⟩ := hH.2.2 e he
    have := nI_inj (by omega) (by omega) (hg1.symm.trans a5)
    omega
  | succ n ih =>
    intro hn8 Ex PB nC nB cur nV nD LC LR W A TE BD Mc Mm e v m k r t hS he hgh hv hT hk hr h48 h36 h37 h49 h51
    obtain ⟨g, hg1, hg2⟩ := hgh
    obtain ⟨kd, h, a1, hkd, a3, a4, a5, px, py, pz, pv, pf⟩ := hH.2.2 e he
    have eh := nI_inj (by omega) (by omega) (hg1.symm.trans a5)
    subst eh
    have hP := ih (by omega)
    have hlen := hS.len hL
    have hl := hH.1
    have ke : ∀ {ρ : Type} {q : Option ρ}, sm_ck (nI e) 40 q = q := ck_nI (by omega) (by decide)
    have ce : (nI e).toNatClampNeg = e := nI_clamp (by omega)
    have r10 : Mc 10 e = nI kd := by rw [hS.rowC hp (by decide) (by decide)]; exact hkd
    have r11 : Mc 11 e = B 11 e := by rw [hS.rowC hp (by decide) (by decide)]
    have k15 : Mc p 15 = 0 := hS.2.2.1.2.2.2.1
    have n1 : (0 < tPn kd) → 1 ≤ n := fun q => by
      obtain ⟨e', g', b1, -, b3, b4⟩ := px q
      obtain ⟨k', h', -, -, c3, c4, c5, -⟩ := hH.2.2 e' (by omega)
      have := nI_inj (by omega) (by omega) (b3.symm.trans c5)
      omega
    obtain ⟨m1, rfl⟩ : ∃ m1, m = m1 + 1 := by
      cases m with
      | zero => exact absurd hT (fun q => q)
      | succ m1 => exact ⟨m1, rfl⟩
    have hT' := (pT_k hkd (by omega)).mp hT
    show wQ p nE B Bm L LM0 FR k0 Ex PB nV LC LR TE BD [d0, d1, d2, d3, p] (400 + n + 1) t v k r Mm (jW_write0 (jW_write n) d0 d1 d2 d3 p (nI e) (nI v) Mc) (jR_writeAll_12 [] Mm)
    unfold jW_write0 jW_write_153
    simp only [k15, ke, ce, r10, r11, if_true, dq_self]
    match kd, a1 with
    | 0, _ =>
      have q : t = tyN := by
        rcases hT' with ⟨z, q⟩ | ⟨z, q⟩ | ⟨z, q⟩ | ⟨z, q⟩ | ⟨z, q⟩ | ⟨z, q⟩ | ⟨z, q⟩ | ⟨z, q⟩ | ⟨z, q⟩ <;> first | exact absurd z (by decide) | exact q
      subst q
      rw [if_pos (show nI 0 = 0 from nI_0)]
      exact w_const (h := g) hg hp hH hS (by omega) he hkd (by omega) (by omega) h48 h36 h37 h49 h51
    | 1, _ =>
      obtain ⟨u, hu, eu⟩ := pv rfl
      have hx : xN (B 11) e = u := by unfold xN; rw [eu]; exact nI_clamp (by omega)
      have q : (BD v)[xN (B 11) e]? = some t := by
        rcases hT' with ⟨z, q⟩ | ⟨z, q⟩ | ⟨z, q⟩ | ⟨z, q⟩ | ⟨z, q⟩ | ⟨z, q⟩ | ⟨z, q⟩ | ⟨z, q⟩ | ⟨z, q⟩ <;> first | exact absurd z (by decide) | exact q
      rw [hx] at q
      rw [if_neg (show ¬ nI 1 = 0 by decide), if_pos (show nI 1 = 1 from rfl)]
      exact w_vari hg hp hH hS (by omega) he hkd hu eu hv q (by omega) (by omega) h48 h36 h37 h49 h51
    | 2, _ =>
      obtain ⟨q0, q1, q2⟩ : t = tyN ∧ _ ∧ _ := by
        rcases hT' with ⟨z, q⟩ | ⟨z, q⟩ | ⟨z, q⟩ | ⟨z, q⟩ | ⟨z, q⟩ | ⟨z, q⟩ | ⟨z, q⟩ | ⟨z, q⟩ | ⟨z, q⟩ <;> first | exact absurd z (by decide) | exact q
      rw [if_neg (show ¬ nI 2 = 0 by decide), if_neg (show ¬ nI 2 = 1 by decide), if_pos (show nI 2 = 2 from rfl)]
      exact (w_two hg hp hH hP hL hM0 hL0 (n1 (by decide)) (by omega) hS he hkd (Or.inl rfl) (px (by decide)) (py (by decide)) hg2 hv q1 q2 q0 hk hr h48 h36 h37 h49 h51).wrap hg
    | 3, _ =>
      obtain ⟨q0, q1, q2⟩ : t = tyN ∧ _ ∧ _ := by
        rcases hT' with ⟨z, q⟩ | ⟨z, q⟩ | ⟨z, q⟩ | ⟨z, q⟩ | ⟨z, q⟩ | ⟨z, q⟩ | ⟨z, q⟩ | ⟨z, q⟩ | ⟨z, q⟩ <;> first | exact absurd z (by decide) | exact q
      rw [if_neg (show ¬ nI 3 = 0 by decide), if_neg (show ¬ nI 3 = 1 by decide), if_neg (show ¬ nI 3 = 2 by decide), if_pos (show nI 3 = 3 from rfl)]
      exact (w_two hg hp hH hP hL hM0 hL0 (n1 (by decide)) (by omega) hS he hkd (Or.inr (Or.inl rfl)) (px (by decide)) (py (by decide)) hg2 hv q1 q2 q0 hk hr h48 h36 h37 h49 h51).wrap hg
    | 4, _ =>
      obtain ⟨q0, q1, q2⟩ : t = tyN ∧ _ ∧ _ := by
        rcases hT' with ⟨z, q⟩ | ⟨z, q⟩ | ⟨z, q⟩ | ⟨z, q⟩ | ⟨z, q⟩ | ⟨z, q⟩ | ⟨z, q⟩ | ⟨z, q⟩ | ⟨z, q⟩ <;> first | exact absurd z (by decide) | exact q
      rw [if_neg (show ¬ nI 4 = 0 by decide), if_neg (show ¬ nI 4 = 1 by decide), if_neg (show ¬ nI 4 = 2 by decide), if_neg (show ¬ nI 4 = 3 by decide), if_pos (show nI 4 = 4 from rfl)]
      exact (w_two hg hp hH hP hL hM0 hL0 (n1 (by decide)) (by omega) hS he hkd (Or.inr (Or.inr (Or.inl rfl))) (px (by decide)) (py (by decide)) hg2 hv q1 q2 q0 hk hr h48 h36 h37 h49 h51).wrap hg
    | 5, _ =>
      obtain ⟨q0, q1, q2⟩ : _ ∧ _ ∧ _ := by
        rcases hT' with ⟨z, q⟩ | ⟨z, q⟩ | ⟨z, q⟩ | ⟨z, q⟩ | ⟨z, q⟩ | ⟨z, q⟩ | ⟨z, q⟩ | ⟨z, q⟩ | ⟨z, q⟩ <;> first | exact absurd z (by decide) | exact q
      rw [if_neg (show ¬ nI 5 = 0 by decide), if_neg (show ¬ nI 5 = 1 by decide), if_neg (show ¬ nI 5 = 2 by decide), if_neg (show ¬ nI 5 = 3 by decide), if_neg (show ¬ nI 5 = 4 by decide), if_pos (show nI 5 = 5 from rfl)]
      exact (w_choice hg hp hH hP hL hL0 (n1 (by decide)) (by omega) hS he hkd (px (by decide)) (py (by decide)) (pz (by decide)) hg2 hv q0 q1 q2 hk hr h48 h36 h37 h49 h51).wrap hg
    | 6, _ =>
      obtain ⟨tt, ta, tb, et, htt⟩ := pf rfl
      have hx : xN (B 11) e = tt := by
        have := (List.getElem?_eq_some_iff.mp htt).1
        unfold xN; rw [et]; exact nI_clamp (by omega)
      obtain ⟨q0, a, b, q1, q2⟩ : L[xN (B 11) e]? = some t ∧ ∃ a b, t = tyF a b ∧ pT (B 10) (B 11) (B 12) (B 13) (B 14) L m1 (a :: t :: BD v) (xN (B 12) e) b := by
        rcases hT' with ⟨z, q⟩ | ⟨z, q⟩ | ⟨z, q⟩ | ⟨z, q⟩ | ⟨z, q⟩ | ⟨z, q⟩ | ⟨z, q⟩ | ⟨z, q⟩ | ⟨z, q⟩ <;> first | exact absurd z (by decide) | exact q
      subst q1
      rw [hx] at q0
      rw [if_neg (show ¬ nI 6 = 0 by decide), if_neg (show ¬ nI 6 = 1 by decide), if_neg (show ¬ nI 6 = 2 by decide), if_neg (show ¬ nI 6 = 3 by decide), if_neg (show ¬ nI 6 = 4 by decide), if_neg (show ¬ nI 6 = 5 by decide), if_pos (show nI 6 = 6 from rfl)]
      exact (w_lam hg hp hH hL hL30 h7 hS (by omega) he hkd et q0 q2 hv (by omega) (by omega) h48 h36 h37 h49 h51).wrap hg
    | 7, _ =>
      obtain ⟨a, q0, q1⟩ : ∃ a, pT (B 10) (B 11) (B 12) (B 13) (B 14) L m1 (BD v) (xN (B 12) e) (tyF a t) ∧ pT (B 10) (B 11) (B 12) (B 13) (B 14) L m1 (BD v) (xN (B 13) e) a := by
        rcases hT' with ⟨z, q⟩ | ⟨z, q⟩ | ⟨z, q⟩ | ⟨z, q⟩ | ⟨z, q⟩ | ⟨z, q⟩ | ⟨z, q⟩ | ⟨z, q⟩ | ⟨z, q⟩ <;> first | exact absurd z (by decide) | exact q
      rw [if_neg (show ¬ nI 7 = 0 by decide), if_neg (show ¬ nI 7 = 1 by decide), if_neg (show ¬ nI 7 = 2 by decide), if_neg (show ¬ nI 7 = 3 by decide), if_neg (show ¬ nI 7 = 4 by decide), if_neg (show ¬ nI 7 = 5 by decide), if_neg (show ¬ nI 7 = 6 by decide), if_pos (show nI 7 = 7 from rfl)]
      exact (w_call hg hp hH hP hL hM0 hL0 (n1 (by decide)) (by omega) hS he hkd (px (by decide)) (py (by decide)) hg2 hv q0 q1 hk hr h48 h36 h37 h49 h51).wrap hg
    | 8, _ =>
      obtain ⟨a, b, q0, q1, q2⟩ : ∃ a b, t = tyP a b ∧ pT (B 10) (B 11) (B 12) (B 13) (B 14) L m1 (BD v) (xN (B 12) e) a ∧ pT (B 10) (B 11) (B 12) (B 13) (B 14) L m1 (BD v) (xN (B 13) e) b := by
        rcases hT' with ⟨z, q⟩ | ⟨z, q⟩ | ⟨z, q⟩ | ⟨z, q⟩ | ⟨z, q⟩ | ⟨z, q⟩ | ⟨z, q⟩ | ⟨z, q⟩ | ⟨z, q⟩ <;> first | exact absurd z (by decide) | exact q
      rw [if_neg (show ¬ nI 8 = 0 by decide), if_neg (show ¬ nI 8 = 1 by decide), if_neg (show ¬ nI 8 = 2 by decide), if_neg (show ¬ nI 8 = 3 by decide), if_neg (show ¬ nI 8 = 4 by decide), if_neg (show ¬ nI 8 = 5 by decide), if_neg (show ¬ nI 8 = 6 by decide), if_neg (show ¬ nI 8 = 7 by decide), if_pos (show nI 8 = 8 from rfl)]
      exact (w_two hg hp hH hP hL hM0 hL0 (n1 (by decide)) (by omega) hS he hkd (Or.inr (Or.inr (Or.inr rfl))) (px (by decide)) (py (by decide)) hg2 hv q1 q2 q0 hk hr h48 h36 h37 h49 h51).wrap hg
    | 9, _ =>
      obtain ⟨b, q0⟩ : ∃ b, pT (B 10) (B 11) (B 12) (B 13) (B 14) L m1 (BD v) (xN (B 12) e) (tyP t b) := by
        rcases hT' with ⟨z, q⟩ | ⟨z, q⟩ | ⟨z, q⟩ | ⟨z, q⟩ | ⟨z, q⟩ | ⟨z, q⟩ | ⟨z, q⟩ | ⟨z, q⟩ | ⟨z, q⟩ <;> first | exact absurd z (by decide) | exact q
      rw [if_neg (show ¬ nI 9 = 0 by decide), if_neg (show ¬ nI 9 = 1 by decide), if_neg (show ¬ nI 9 = 2 by decide), if_neg (show ¬ nI 9 = 3 by decide), if_neg (show ¬ nI 9 = 4 by decide), if_neg (show ¬ nI 9 = 5 by decide), if_neg (show ¬ nI 9 = 6 by decide), if_neg (show ¬ nI 9 = 7 by decide), if_neg (show ¬ nI 9 = 8 by decide), if_pos (show nI 9 = 9 from rfl)]
      have h0 := w_half (kd := 9) (ta := t) (tb := b) hg hp hH hP hL (by omega) hS he hkd (Or.inl rfl) (px (by decide)) hg2 hv q0 rfl hk hr h48 h36 h37 h49 h51
      have h0' : wQ p nE B Bm L LM0 FR k0 Ex PB nV LC LR TE BD [d0, d1, d2, d3, p] (400 + n + 1) t v k r Mm (jW_writePart (jW_write n) d0 d1 d2 d3 p (nI e) (nI v) 0 Mc) (jR_writeAll_12 [] Mm) := h0
      exact h0'.wrap hg
    | 10, _ =>
      obtain ⟨a, q0⟩ : ∃ a, pT (B 10) (B 11) (B 12) (B 13) (B 14) L m1 (BD v) (xN (B 12) e) (tyP a t) := by
        rcases hT' with ⟨z, q⟩ | ⟨z, q⟩ | ⟨z, q⟩ | ⟨z, q⟩ | ⟨z, q⟩ | ⟨z, q⟩ | ⟨z, q⟩ | ⟨z, q⟩ | ⟨z, q⟩ <;> first | exact absurd z (by decide) | exact q
      rw [if_neg (show ¬ nI 10 = 0 by decide), if_neg (show ¬ nI 10 = 1 by decide), if_neg (show ¬ nI 10 = 2 by decide), if_neg (show ¬ nI 10 = 3 by decide), if_neg (show ¬ nI 10 = 4 by decide), if_neg (show ¬ nI 10 = 5 by decide), if_neg (show ¬ nI 10 = 6 by decide), if_neg (show ¬ nI 10 = 7 by decide), if_neg (show ¬ nI 10 = 8 by decide), if_neg (show ¬ nI 10 = 9 by decide), if_pos (show nI 10 = 10 from rfl)]
      have h0 := w_half (kd := 10) (ta := a) (tb := t) hg hp hH hP hL (by omega) hS he hkd (Or.inr rfl) (px (by decide)) hg2 hv q0 rfl hk hr h48 h36 h37 h49 h51
      have h0' : wQ p nE B Bm L LM0 FR k0 Ex PB nV LC LR TE BD [d0, d1, d2, d3, p] (400 + n + 1) t v k r Mm (jW_writePart (jW_write n) d0 d1 d2 d3 p (nI e) (nI v) 1 Mc) (jR_writeAll_12 [] Mm) := h0
      exact h0'.wrap hg
    | k + 11, hk11 => omega
end
