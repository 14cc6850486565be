/-! compile: what the writing of an expression comes to -/
def wK (k r : Nat) (M' M : sm_M) : Prop := (∀ j, j < k → M' 36 j = M 36 j ∧ M' 37 j = M 37 j ∧ M' 38 j = M 38 j) ∧ ∀ j, j < r → M' 39 j = M 39 j
theorem wK.trans {k r : Nat} {X Y Z : sm_M} (h : wK k r X Y) (h' : wK k r Y Z) : wK k r X Z := ⟨fun j hj => ⟨(h.1 j hj).1.trans (h'.1 j hj).1, (h.1 j hj).2.1.trans (h'.1 j hj).2.1, (h.1 j hj).2.2.trans (h'.1 j hj).2.2⟩, fun j hj => (h.2 j hj).trans (h'.2 j hj)⟩
theorem wK.less {k r k' r' : Nat} {X Y : sm_M} (h : wK k r X Y) (hk : k' ≤ k) (hr : r' ≤ r) : wK k' r' X Y := ⟨fun j hj => h.1 j (by omega), fun j hj => h.2 j (by omega)⟩
/-- the class alone, where it does not fit -/
def cOv (p : Nat) (B : sm_M) (L LC : List Ty) (N mV : Nat) (D : sm_D) (jc : Option sm_S) : Prop := ∃ (x : Int32) (K : List Ty) (M' : sm_M) (ox : Option Ty), jc = some (x, D, M') ∧ wOc p B L (LC ++ K) N mV M' ∧ ty_pr (LC ++ K) x ox
def wV (p : Nat) (B Bm : sm_M) (L LM0 LC : List Ty) (N mV r : Nat) (D : sm_D) (jc jr : Option sm_S) : Prop := cOv p B L LC N mV D jc ∧ ∃ (LR' : List Ty) (Mm' : sm_M) (r' : Nat), jr = some (0, [], Mm') ∧ wOr Bm LM0 LR' Mm' ∧ Mm' 1 49 = nI r' ∧ r ≤ r' ∧ r' ≤ r + 9
def wY (p nE : Nat) (B Bm : sm_M) (L LM0 FR : List Ty) (k0 : Nat) (Ex PB : List Nat) (nV : Nat) (LC LR : List Ty) (TE : Nat → Ty) (BD : Nat → List Ty) (D : sm_D) (t : Ty) (v k r : Nat) (Mm : sm_M) (jc jr : Option sm_S) : Prop := ∃ (x : Int32) (nC' nB' cur' nV' nD' : Nat) (PB2 : List Nat) (KC KR : List Ty) (W' : Nat → Ty) (A' : Nat → Option Ty) (TE' : Nat → Ty) (BD' : Nat → List Ty) (Mc' Mm' : sm_M), jc = some (x, D, Mc') ∧ jr = jR_writeAll_12 [] Mm' ∧ wS p nE B Bm L LM0 FR k0 Ex (PB ++ PB2) nC' nB' cur' nV' nD' (LC ++ KC) (LR ++ KR) W' A' TE' BD' Mc' Mm' ∧ ty_pr (LC ++ KC) x (some t) ∧ (Mm' 1 48 = nI k ∧ Mm' 1 49 = nI (r + 1) ∧ Mm' 1 51 = nI v ∧ ty_pr (LR ++ KR) (Mm' 39 r) (some t)) ∧ wK k r Mm' Mm ∧ nV ≤ nV' ∧ ∀ i, i < nV → TE' i = TE i ∧ BD' i = BD i ∧ Mm' 40 i = Mm 40 i
def wQ (p nE : Nat) (B Bm : sm_M) (L LM0 FR : List Ty) (k0 : Nat) (Ex PB : List Nat) (nV : Nat) (LC LR : List Ty) (TE : Nat → Ty) (BD : Nat → List Ty) (D : sm_D) (N : Nat) (t : Ty) (v k r : Nat) (Mm : sm_M) (jc jr : Option sm_S) : Prop := wY p nE B Bm L LM0 FR k0 Ex PB nV LC LR TE BD D t v k r Mm jc jr ∨ wV p B Bm L LM0 LC N nV r D jc jr
section
variable {p nE d0 d1 d2 d3 : Nat} {B Bm : sm_M} {L LM0 FR : List Ty} {k0 : Nat} {Ex PB : List Nat} {nC nB cur nV nD N mV k r v e : Nat} {LC LR : List Ty} {W : Nat → Ty} {A : Nat → Option Ty} {TE : Nat → Ty} {BD : Nat → List Ty} {Mc Mm Mc' Mm' M : sm_M} {D : sm_D} {a b c x x' y y' z z' : Int32} {t : Ty}
theorem cOv.bi {N1 N2 : Nat} {f : Int32 → sm_D → sm_M → Option sm_S} {jc : Option sm_S} (h : cOv p B L LC N1 mV D jc) (hf : ∀ (x : Int32) (K : List Ty) (M : sm_M) (ox : Option Ty), wOc p B L (LC ++ K) N1 mV M → ty_pr (LC ++ K) x ox → cOv p B L (LC ++ K) N2 mV D (f x D M)) : cOv p B L LC N2 mV D (sm_bi jc f) := by
  obtain ⟨x, K, M', ox, rfl, h2, h3⟩ := h
  obtain ⟨x2, K2, M2, o2, e1, e2, e3⟩ := hf x K M' ox h2 h3
  exact ⟨x2, K ++ K2, M2, o2, e1, by rw [← List.append_assoc]; exact e2, by rw [← List.append_assoc]; exact e3⟩
theorem cOv.ret {ox : Option Ty} (h : wOc p B L LC N mV M) (hx : ty_pr LC x ox) : cOv p B L LC N mV D (some (x, D, M)) := ⟨x, [], M, ox, rfl, by rw [List.append_nil]; exact h, by rw [List.append_nil]; exact hx⟩
theorem wOc.mono {N' : Nat} (h : wOc p B L LC N mV M) (hN : N ≤ N') : wOc p B L LC N' mV M := ⟨h.1, ⟨h.2.1.1, by have := h.2.1.2; omega⟩, h.2.2⟩
theorem cOv.mono {N' : Nat} {jc : Option sm_S} (h : cOv p B L LC N mV D jc) (hN : N ≤ N') : cOv p B L LC N' mV D jc := by
  obtain ⟨x, K, M', ox, e, h2, h3⟩ := h
  exact ⟨x, K, M', ox, e, h2.mono hN, h3⟩
theorem cOv.back {K : List Ty} {jc : Option sm_S} (h : cOv p B L (LC ++ K) N mV D jc) : cOv p B L LC N mV D jc := by
  obtain ⟨x, K2, M', ox, e, h2, h3⟩ := h
  exact ⟨x, K ++ K2, M', ox, e, by rw [← List.append_assoc]; exact h2, by rw [← List.append_assoc]; exact h3⟩
/-- the class puts, then goes on -/
theorem cOv.put {o : Nat} {f : Int32 → sm_D → sm_M → Option sm_S} (hg : [p] ∈ gC) (hp : 40 ≤ p) (hO : wOc p B L LC N mV M) (ho : o ≤ 12) (hw : o = 7 → ∃ w, ty_pr LC c (some w)) {N2 : Nat} (hf : ∀ M, wOc p B L LC N mV M → cOv p B L LC N2 mV D (f 0 D M)) : cOv p B L LC N2 mV D (sm_bi (sm_ga [p] gC (jC_put p (nI o) a b c D M)) f) := by
  obtain ⟨M', e1, e2⟩ := c_putO (D := D) (a := a) (b := b) hg hp hO ho hw
  rw [ga_in hg, e1, bi_some]
  exact hf M' e2
theorem cOv.res {f : Int32 → sm_D → sm_M → Option sm_S} (hg : [p] ∈ gC) (hp : 40 ≤ p) (hO : wOc p B L LC N mV M) {N2 : Nat} (hf : ∀ x M, wOc p B L LC N mV M → cOv p B L LC N2 mV D (f x D M)) : cOv p B L LC N2 mV D (sm_bi (sm_ga [p] gC (jC_reserve p D M)) f) := by
  obtain ⟨x, M', e1, e2⟩ := c_resO (D := D) hp hO
  rw [ga_in hg, e1, bi_some]
  exact hf x M' e2
theorem cOv.opn {f : Int32 → sm_D → sm_M → Option sm_S} {oa ob oc : Option Ty} (hg : [p] ∈ gC) (hp : 40 ≤ p) (hO : wOc p B L LC N mV M) (ha : ty_pr LC a oa) (hb : ty_pr LC b ob) (hc : ty_pr LC c oc) {N2 : Nat} (hf : ∀ M, wOc p B L LC N mV M → cOv p B L LC N2 mV D (f 0 D M)) : cOv p B L LC N2 mV D (sm_bi (sm_ga [p] gC (jC_open p x a b c D M)) f) := by
  obtain ⟨M', e1, e2⟩ := c_openO (D := D) (x := x) hg hp hO ha hb hc
  rw [ga_in hg, e1, bi_some]
  exact hf M' e2
theorem m1n : ty_pr LC (-1) none := Or.inl ⟨rfl, rfl⟩
/-- an item of work is taken -/
theorem r_item {i : Nat} {y : Int32} (hk : k < 400) (h48 : Mm 1 48 = nI (k + 1)) (h36 : Mm 36 k = nI i) (h37 : Mm 37 k = y) : (i = 0 → jR_doNext [] Mm = sm_bi (jR_write y [] (sm_up Mm 1 48 (nI k))) (fun x E M => sm_dq E [] (some (0, [], M)))) ∧ (i = 1 → jR_doNext [] Mm = sm_bi (jR_push 0 [] (sm_up Mm 1 48 (nI k))) (fun x E M => sm_dq E [] (some (0, [], M)))) ∧ (i = 5 → jR_doNext [] Mm = sm_bi (jR_choose y [] (sm_up Mm 1 48 (nI k))) (fun x E M => sm_dq E [] (some (0, [], M)))) ∧ (i = 8 → jR_doNext [] Mm = sm_bi (jR_call [] (sm_up Mm 1 48 (nI k))) (fun x E M => sm_dq E [] (some (0, [], M)))) := by
  have kk : ∀ {ρ : Type} {q : Option ρ}, sm_ck (nI k) 400 q = q := ck_nI hk (by decide)
  have ck : (nI k).toNatClampNeg = k := nI_clamp (by omega)
  have o36 : sm_up Mm 1 48 (nI k) 36 = Mm 36 := up_ne (by decide)
  have o37 : sm_up Mm 1 48 (nI k) 37 = Mm 37 := up_ne (by decide)
  unfold jR_doNext jR_doNext_323
  simp only [sm_wr, h48, nI_pred, up_at, kk, ck, o36, o37, h36, h37]
  refine ⟨fun h => ?_, fun h => ?_, fun h => ?_, fun h => ?_⟩
  · subst h
    rw [if_pos (show nI 0 = 0 from nI_0)]
  · subst h
    rw [if_neg (show ¬ nI 1 = 0 by decide), if_pos (show nI 1 = 1 from rfl)]
  · subst h
    rw [if_neg (show ¬ nI 5 = 0 by decide), if_neg (show ¬ nI 5 = 1 by decide), if_neg (show ¬ nI 5 = 2 by decide), if_neg (show ¬ nI 5 = 3 by decide), if_neg (show ¬ nI 5 = 4 by decide), if_pos (show nI 5 = 5 from rfl)]
  · subst h
    rw [if_neg (show ¬ nI 8 = 0 by decide), if_neg (show ¬ nI 8 = 1 by decide), if_neg (show ¬ nI 8 = 2 by decide), if_neg (show ¬ nI 8 = 3 by decide), if_neg (show ¬ nI 8 = 4 by decide), if_neg (show ¬ nI 8 = 5 by decide), if_neg (show ¬ nI 8 = 6 by decide), if_neg (show ¬ nI 8 = 7 by decide)]
/-- the state that an item begins with -/
theorem w_it (hS : wS p nE B Bm L LM0 FR k0 Ex PB nC nB cur nV nD LC LR W A TE BD Mc Mm) : wS p nE B Bm L LM0 FR k0 Ex PB nC nB cur nV nD LC LR W A TE BD Mc (sm_up Mm 1 48 (nI k)) := wS_w hS (fun q a _ => up_ne a) (fun j a _ _ => up_as a)
theorem w_fin (hS : wS p nE B Bm L LM0 FR k0 Ex PB nC nB cur nV nD LC LR W A TE BD Mc Mm) : wS p nE B Bm L LM0 FR k0 Ex PB nC nB cur nV nD LC LR W A TE BD Mc (rPu Mm r x) := wS_w hS (fun q a b => rPu_o a (by omega)) (fun j _ a _ => rPu_1 a)
theorem wOr_f (h : wOr Bm LM0 LR M) : wOr Bm LM0 LR (rPu M r x) := wOr_w h (fun q a b => rPu_o a (by omega)) (fun j hj => rPu_1 (by omega))
/-- a constant -/
theorem w_const {h : Nat} (hg : [p] ∈ gC) (hp : 40 ≤ p) (hH : vH nE L B Bm) (hS : wS p nE B Bm L LM0 FR k0 Ex PB nC nB cur nV nD LC LR W A TE BD Mc Mm) (hLN : LC.length ≤ N) (he : e < nE) (hk0' : B 10 e = nI 0) (hk : k < 400) (hr : r < 390) (h48 : Mm 1 48 = nI (k + 1)) (h36 : Mm 36 k = nI 0) (h37 : Mm 37 k = nI e) (h49 : Mm 1 49 = nI r) (h51 : Mm 1 51 = nI v) : wQ p nE B Bm L LM0 FR k0 Ex PB nV LC LR TE BD [d0, d1, d2, d3, p] N tyN v k r Mm (sm_bi (sm_ga [p] gC (jC_put p 0 2 (B 11 e) 0 [d0, d1, d2, d3, p] Mc)) (fun x7 E7 M7 => sm_dq E7 [d0, d1, d2, d3, p] (some (0, [d0, d1, d2, d3, p], M7)))) (jR_writeAll_12 [] Mm) := by
  have hl := hH.1
  obtain ⟨q1, q2, q3, q4, q5⟩ := hH.2.1 e he
  have ke : ∀ {ρ : Type} {q : Option ρ}, sm_ck (nI e) 40 q = q := ck_nI (by omega) (by decide)
  have ce : (nI e).toNatClampNeg = e := nI_clamp (by omega)
  have h47 := hS.2.2.2.1.2.2.2.1
  have hS1 : wS p nE B Bm L LM0 FR k0 Ex PB nC nB cur nV nD LC LR W A TE BD Mc (sm_up Mm 1 48 (nI k)) := w_it hS
  have m12 : sm_up Mm 1 48 (nI k) 12 e = nI 0 := by rw [up_ne (by decide), hS.2.2.2.2.2.2.2.2.2.1 12 (by decide), q1]; exact hk0'
  have m13 : sm_up Mm 1 48 (nI k) 13 e = B 11 e := by rw [up_ne (by decide), hS.2.2.2.2.2.2.2.2.2.1 13 (by decide), q2]
  have hdn := (r_item hk h48 h36 h37).1 rfl
  have hwr : jR_write (nI e) [] (sm_up Mm 1 48 (nI k)) = sm_bi (jR_emit 0 2 (B 11 e) 0 [] (sm_up Mm 1 48 (nI k))) (fun x4 E4 M4 => sm_dq E4 [] (sm_bi (jR_finish 0 [] M4) (fun x5 E5 M5 => sm_dq E5 [] (some (0, [], M5))))) := by
    unfold jR_write
    rw [ke, ke, ce, m12, if_pos (show nI 0 = 0 from nI_0), m13]
  have t9 := hS.2.1.2.2.2.2.2.2.2.2.1
  have t10 := hS.2.1.2.2.2.2.2.2.2.2.2
  have z49 : sm_up Mm 1 48 (nI k) 1 49 = nI r := by rw [up_as (by decide)]; exact h49
  rcases w_put (D := [d0, d1, d2, d3, p]) (o := 0) (a := 2) (b := B 11 e) (c := 0) (c' := 0) hg hp hS1 hLN (by decide) rfl rfl rfl (Or.inl ⟨rfl, 2, by decide, by decide, rfl⟩) (fun _ => rfl) (fun q => absurd q (by decide)) with ⟨W', Mc2, Mm2, e1, e2, e3, e4, e5, e6⟩ | ⟨Mc2, e1, e2, e3, e4⟩
  · have e1' : jC_put p 0 2 (B 11 e) 0 [d0, d1, d2, d3, p] Mc = some (0, [d0, d1, d2, d3, p], Mc2) := e1
    have e2' : jR_emit 0 2 (B 11 e) 0 [] (sm_up Mm 1 48 (nI k)) = some (0, [], Mm2) := e2
    have y49 : Mm2 1 49 = nI r := by rw [e6 49 (by decide)]; exact z49
    refine Or.inl ⟨0, nC + 1, nB, cur, nV, nD, [], [], [], W', A, TE, BD, Mc2, rPu Mm2 r 0, ?_, ?_, ?_, ?_, ⟨?_, rPu_49, ?_, ?_⟩, ⟨fun j hj => ?_, fun j hj => ?_⟩, Nat.le_refl _, fun i _ => ⟨rfl, rfl, by rw [rPu_o (by decide) (by decide), e5 40 (by decide), up_ne (by decide)]⟩⟩
    · rw [ga_in hg, e1', bi_some, dq_self]
    · refine w_loop hk h48 h47 (x := 0) ?_
      rw [hdn, hwr, e2', bi_some, dq_self, r_fin (by omega) y49, bi_some, dq_self, bi_some, dq_self]
    · rw [List.append_nil, List.append_nil, List.append_nil]; exact w_fin e3
    · rw [List.append_nil]; exact Or.inr ⟨0, tyN, rfl, t9, nI_0.symm⟩
    · rw [rPu_1 (by decide), e6 48 (by decide), up_at]
    · rw [rPu_1 (by decide), e6 51 (by decide), up_as (by decide)]; exact h51
    · rw [rPu_39, upd_at, List.append_nil]; exact Or.inr ⟨0, tyN, rfl, t10, nI_0.symm⟩
    · rw [rPu_o (by decide) (by decide), rPu_o (by decide) (by decide), rPu_o (by decide) (by decide), e5 36 (by decide), e5 37 (by decide), e5 38 (by decide), up_ne (by decide), up_ne (by decide), up_ne (by decide)]
      exact ⟨rfl, rfl, rfl⟩
    · rw [rPu_39, upd_ne (by omega), e5 39 (by decide), up_ne (by decide)]
  · have e1' : jC_put p 0 2 (B 11 e) 0 [d0, d1, d2, d3, p] Mc = some (0, [d0, d1, d2, d3, p], Mc2) := e1
    have e3' : jR_emit 0 2 (B 11 e) 0 [] (sm_up Mm 1 48 (nI k)) = some (0, [], sm_up (sm_up Mm 1 48 (nI k)) 1 47 1) := e3
    have y49 : sm_up (sm_up Mm 1 48 (nI k)) 1 47 1 1 49 = nI r := by rw [up_as (by decide)]; exact z49
    refine Or.inr ⟨?_, LR, rPu (sm_up (sm_up Mm 1 48 (nI k)) 1 47 1) r 0, r + 1, ?_, wOr_f e4, rPu_49, by omega, by omega⟩
    · rw [ga_in hg, e1', bi_some, dq_self]
      exact cOv.ret e2 (Or.inr ⟨0, tyN, rfl, t9, nI_0.symm⟩)
    · rw [w_loop (x := 0) (Mm' := rPu (sm_up (sm_up Mm 1 48 (nI k)) 1 47 1) r 0) hk h48 h47 (by rw [hdn, hwr, e3', bi_some, dq_self, r_fin (by omega) y49, bi_some, dq_self, bi_some, dq_self]), w_stop (by rw [rPu_1 (by decide), up_at])]
end
