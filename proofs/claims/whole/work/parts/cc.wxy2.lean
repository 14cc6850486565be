/-! compile: a left part, a right part, what is made of them -/
section
variable {p nE d0 d1 d2 d3 : Nat} {B Bm : sm_M} {L LM0 FR : List Ty} {k0 : Nat} {Ex PB : List Nat} {nC nB cur nV nD N mV k r v e m m' n h kd s1 : Nat} {LC LR : List Ty} {W : Nat → Ty} {A : Nat → Option Ty} {TE : Nat → Ty} {BD : Nat → List Ty} {Mc Mm Mc' Mm' M : sm_M} {D : sm_D} {a b c x x' y y' z z' : Int32} {t ta tb : Ty} {o1 o2 : Option Ty}
theorem w_ptn (hE : nE ≤ 40) {f : Nat → Int32} (hp : exP B e h (f e)) (he : e < nE) (hh : h ≤ n + 1) : ∃ g, xN f e < nE ∧ f e = nI (xN f e) ∧ B 15 (xN f e) = nI g ∧ g ≤ n := by
  obtain ⟨e', g, a1, a2, a3, a4⟩ := hp
  have hx : xN f e = e' := by unfold xN; rw [a2]; exact nI_clamp (by omega)
  exact ⟨g, by omega, by rw [hx]; exact a2, by rw [hx]; exact a3, by omega⟩
/-- the work that two parts make -/
theorem r_161 (hH : vH nE L B Bm) (hS : wS p nE B Bm L LM0 FR k0 Ex PB nC nB cur nV nD LC LR W A TE BD Mc Mm) (he : e < nE) (hkd : B 10 e = nI kd) (kk : kd = 2 ∨ kd = 3 ∨ kd = 4 ∨ kd = 7 ∨ kd = 8) (hs1 : s1 = if kd = 7 then 8 else if kd = 8 then 3 else 2) (hk : k + 3 < 400) (h48 : Mm 1 48 = nI (k + 1)) (h36 : Mm 36 k = nI 0) (h37 : Mm 37 k = nI e) : jR_doNext [] Mm = some (0, [], rLa (rLa (rLa (rLa (sm_up Mm 1 48 (nI k)) k (nI s1) (nI kd) 0) (k + 1) 0 (B 13 e) 0) (k + 2) 1 0 0) (k + 3) 0 (B 12 e) 0) := by
  have hl := hH.1
  obtain ⟨q1, q2, q3, q4, q5⟩ := hH.2.1 e he
  have ke : ∀ {ρ : Type} {q : Option ρ}, sm_ck (nI e) 40 q = q := ck_nI (by omega) (by decide)
  have ce : (nI e).toNatClampNeg = e := nI_clamp (by omega)
  have m12 : sm_up Mm 1 48 (nI k) 12 e = nI kd := by rw [up_ne (by decide), hS.row (by decide) (by decide), q1]; exact hkd
  have m14 : ∀ N : sm_M, (∀ q, q < 36 → q ≠ 1 → N q = Mm q) → N 14 e = B 12 e ∧ N 15 e = B 13 e := fun N hN => ⟨by rw [hN 14 (by decide) (by decide), hS.row (by decide) (by decide), q3], by rw [hN 15 (by decide) (by decide), hS.row (by decide) (by decide), q4]⟩
  have h161 : jR_write_161 (nI e) (nI s1) [] (sm_up Mm 1 48 (nI k)) = some (0, [], rLa (rLa (rLa (rLa (sm_up Mm 1 48 (nI k)) k (nI s1) (nI kd) 0) (k + 1) 0 (B 13 e) 0) (k + 2) 1 0 0) (k + 3) 0 (B 12 e) 0) := by
    unfold jR_write_161 jR_write_190
    simp only [ke, ce, m12]
    rw [r_later (by omega) up_at, bi_some, dq_self, (m14 (rLa (sm_up Mm 1 48 (nI k)) k (nI s1) (nI kd) 0) (fun q a b => by rw [rLa_o b (by omega), up_ne b])).2, r_later (by omega) rLa_48, bi_some, dq_self, r_later (by omega) rLa_48, bi_some, dq_self, (m14 (rLa (rLa (rLa (sm_up Mm 1 48 (nI k)) k (nI s1) (nI kd) 0) (k + 1) 0 (B 13 e) 0) (k + 2) 1 0 0) (fun q a b => by rw [rLa_o b (by omega), rLa_o b (by omega), rLa_o b (by omega), up_ne b])).1, r_later (by omega) rLa_48, bi_some, dq_self]
  rw [(r_item (by omega) h48 h36 h37).1 rfl, (r_wsel (by omega) m12).1 kk]
  unfold jR_write_128
  simp only [ke, ce, m12]
  have c7 : nI kd = 7 ↔ kd = 7 := ⟨fun q => nI_inj (by omega) (by decide) (show nI kd = nI 7 from q), fun q => by rw [q]; rfl⟩
  have c8 : nI kd = 8 ↔ kd = 8 := ⟨fun q => nI_inj (by omega) (by decide) (show nI kd = nI 8 from q), fun q => by rw [q]; rfl⟩
  by_cases g7 : kd = 7
  · rw [if_pos g7] at hs1
    subst hs1
    have h161' : jR_write_161 (nI e) 8 [] (sm_up Mm 1 48 (nI k)) = _ := h161
    rw [if_pos (c7.mpr g7), h161', bi_some, dq_self]
  · rw [if_neg g7] at hs1
    by_cases g8 : kd = 8
    · rw [if_pos g8] at hs1
      subst hs1
      have h161' : jR_write_161 (nI e) 3 [] (sm_up Mm 1 48 (nI k)) = _ := h161
      rw [if_neg (fun q => g7 (c7.mp q)), if_pos (c8.mpr g8), h161', bi_some, dq_self]
    · rw [if_neg g8] at hs1
      subst hs1
      have h161' : jR_write_161 (nI e) 2 [] (sm_up Mm 1 48 (nI k)) = _ := h161
      rw [if_neg (fun q => g7 (c7.mp q)), if_neg (fun q => g8 (c8.mp q)), h161', bi_some, dq_self]
/-- the class between the parts -/
noncomputable def cSeg (p d0 d1 d2 d3 n e : Nat) (v x1 : Int32) (F : Int32 → sm_M → Option sm_S) (M1 : sm_M) : Option sm_S := sm_bi (sm_ga [p] gC (jC_put p 4 1 1 2 [d0, d1, d2, d3, p] M1)) (fun _ E2 M2 => sm_dq E2 [d0, d1, d2, d3, p] (sm_bi (sm_ga [p] gC (jW_extend d0 d1 d2 d3 p v x1 0 M2)) (fun x3 E3 M3 => sm_dq E3 [d0, d1, d2, d3, p] (sm_bi (sm_ga [p] gC (jW_write n d0 d1 d2 d3 p (M2 13 e) x3 M3)) (fun x4 E4 M4 => sm_dq E4 [d0, d1, d2, d3, p] (F x4 M4))))))
theorem w_wrO {f g : Int32} (hO : wOc p B L LC N mV M) (hn : 1 ≤ n) : jW_write n d0 d1 d2 d3 p f g M = some (0, [d0, d1, d2, d3, p], M) := by
  obtain ⟨m, rfl⟩ : ∃ m, n = m + 1 := ⟨n - 1, by omega⟩
  show jW_write0 (jW_write m) d0 d1 d2 d3 p f g M = _
  unfold jW_write0
  rw [hO.2.2.1, if_neg (by decide)]
theorem cSegO {F : Int32 → sm_M → Option sm_S} {vv : Int32} {ox : Option Ty} (hg : [p] ∈ gC) (hp : 40 ≤ p) (hn : 1 ≤ n) (hO : wOc p B L LC N mV M) (h0 : LC[0]? = some tyN) (hF : ∀ M, wOc p B L LC N mV M → cOv p B L LC (N + 1) mV [d0, d1, d2, d3, p] (F 0 M)) : cOv p B L LC (N + 1) mV [d0, d1, d2, d3, p] (cSeg p d0 d1 d2 d3 n e vv x F M) := by
  unfold cSeg
  refine cOv.put (o := 4) hg hp hO (by decide) (fun q => absurd q (by decide)) (fun M2 hO2 => ?_)
  rw [dq_self, ga_in hg, c_extO hO2, bi_some, dq_self, ga_in hg, w_wrO hO2 hn, bi_some, dq_self]
  exact hF M2 hO2
theorem wOc.tn (hO : wOc p B L LC N mV M) (h0 : L[0]? = some tyN) : LC[0]? = some tyN := by
  obtain ⟨⟨K, e⟩, -⟩ := hO.2.1
  rw [e, List.getElem?_append_left (List.getElem?_eq_some_iff.mp h0).1]
  exact h0
/-- two parts: F is what the class does behind them, and s1 the work that the reference does -/
theorem w_xy {F : Int32 → Int32 → Int32 → sm_M → Option sm_S} {C1 : Int32 → sm_M → Option sm_S} {Q : List Ty → Int32 → Prop} (hg : [p] ∈ gC) (hp : 40 ≤ p) (hH : vH nE L B Bm) (hP : wP p nE d0 d1 d2 d3 B Bm L LM0 FR k0 n) (hL : L.length + FR.length ≤ 60) (hM0 : LM0.length + 300 + k0 < 2990) (hL0 : L[0]? = some tyN) (hn1 : 1 ≤ n) (hn8 : n ≤ 8) (hS : wS p nE B Bm L LM0 FR k0 Ex PB nC nB cur nV nD LC LR W A TE BD Mc Mm) (he : e < nE) (hkd : B 10 e = nI kd) (kk : kd = 2 ∨ kd = 3 ∨ kd = 4 ∨ kd = 7 ∨ kd = 8) (hs1 : s1 = if kd = 7 then 8 else if kd = 8 then 3 else 2) (px : exP B e h (B 12 e)) (py : exP B e h (B 13 e)) (hh : h ≤ n + 1) (hv : v < nV) (hTx : pT (B 10) (B 11) (B 12) (B 13) (B 14) L m (BD v) (xN (B 12) e) ta) (hTy : pT (B 10) (B 11) (B 12) (B 13) (B 14) L m' (BD v) (xN (B 13) e) tb) (hk : k + 3 * (n + 1) ≤ 380) (hr : r + (n + 1) ≤ 380) (h48 : Mm 1 48 = nI (k + 1)) (h36 : Mm 36 k = nI 0) (h37 : Mm 37 k = nI e) (h49 : Mm 1 49 = nI r) (h51 : Mm 1 51 = nI v)
    (hQg : ∀ LC K y, Q LC y → Q (LC ++ K) y) (hQn : ∀ LC y, Q LC y → ∃ oy, ty_pr LC y oy)
    (hC1 : ∀ (x1 : Int32) (LC' : List Ty) (M1 : sm_M), tabC M1 LC' → ty_pr LC' x1 (some ta) → ∃ y2, Q LC' y2 ∧ C1 x1 M1 = cSeg p d0 d1 d2 d3 n e (nI v) x1 (F x1 y2) M1)
    (hC1O : ∀ (x1 : Int32) (LC' : List Ty) (M1 : sm_M) (ox : Option Ty), wOc p B L LC' (400 + n) nV M1 → ty_pr LC' x1 ox → ∃ y2 oy, ty_pr LC' y2 oy ∧ C1 x1 M1 = cSeg p d0 d1 d2 d3 n e (nI v) x1 (F x1 y2) M1)
    (hFO : ∀ (x1 y2 x4 : Int32) (LC' : List Ty) (M : sm_M) (ox oy oz : Option Ty), wOc p B L LC' (400 + n) nV M → ty_pr LC' x1 ox → ty_pr LC' y2 oy → ty_pr LC' x4 oz → cOv p B L LC' (400 + n + 1) nV [d0, d1, d2, d3, p] (F x1 y2 x4 M))
    (hF : ∀ (x1 y2 x4 : Int32) (v' nC2 nB2 cur2 nV2 nD2 : Nat) (PB2 : List Nat) (KC KR : List Ty) (W2 : Nat → Ty) (A2 : Nat → Option Ty) (TE2 : Nat → Ty) (BD2 : Nat → List Ty) (Mc4 Mm4 : sm_M), wS p nE B Bm L LM0 FR k0 Ex (PB ++ PB2) nC2 nB2 cur2 nV2 nD2 (LC ++ KC) (LR ++ KR) W2 A2 TE2 BD2 Mc4 Mm4 → ty_pr (LC ++ KC) x1 (some ta) → Q (LC ++ KC) y2 → ty_pr (LC ++ KC) x4 (some tb) → v' < nV2 → TE2 v' = tyP (TE v) ta → Mm4 40 v' = nI v → ty_pr (LR ++ KR) (Mm4 41 v') (some ta) → Mm4 1 48 = nI (k + 1) → Mm4 36 k = nI s1 → Mm4 37 k = nI kd → Mm4 1 49 = nI (r + 1) → ty_pr (LR ++ KR) (Mm4 39 r) (some tb) → Mm4 1 51 = nI v' → wK k r Mm4 Mm → nV ≤ nV2 → (∀ i, i < nV → TE2 i = TE i ∧ BD2 i = BD i ∧ Mm4 40 i = Mm 40 i) → wQ p nE B Bm L LM0 FR k0 Ex PB nV LC LR TE BD [d0, d1, d2, d3, p] (400 + n + 1) t v k r Mm (F x1 y2 x4 Mc4) (jR_writeAll_12 [] Mm4)) :
    wQ p nE B Bm L LM0 FR k0 Ex PB nV LC LR TE BD [d0, d1, d2, d3, p] (400 + n + 1) t v k r Mm (sm_bi (sm_ga [p] gC (jW_write n d0 d1 d2 d3 p (B 12 e) (nI v) Mc)) (fun x1 E1 M1 => sm_dq E1 [d0, d1, d2, d3, p] (C1 x1 M1))) (jR_writeAll_12 [] Mm) := by
  have hl := hH.1
  obtain ⟨gx, gx1, gx2, gx3, gx4⟩ := w_ptn (f := B 12) hl px he hh
  obtain ⟨gy, gy1, gy2, gy3, gy4⟩ := w_ptn (f := B 13) hl py he hh
  have hd1 := r_161 hH hS he hkd kk hs1 (by omega) h48 h36 h37
  rw [gx2, gy2] at hd1
  rw [w_loop (by omega) h48 hS.o47 hd1, gx2]
  have w1 : ∀ j, j ≠ 48 → rLa (rLa (rLa (rLa (sm_up Mm 1 48 (nI k)) k (nI s1) (nI kd) 0) (k + 1) 0 (nI (xN (B 13) e)) 0) (k + 2) 1 0 0) (k + 3) 0 (nI (xN (B 12) e)) 0 1 j = Mm 1 j := fun j hj => by rw [rLa_1 hj, rLa_1 hj, rLa_1 hj, rLa_1 hj, up_as hj]
  have hS1 : wS p nE B Bm L LM0 FR k0 Ex PB nC nB cur nV nD LC LR W A TE BD Mc (rLa (rLa (rLa (rLa (sm_up Mm 1 48 (nI k)) k (nI s1) (nI kd) 0) (k + 1) 0 (nI (xN (B 13) e)) 0) (k + 2) 1 0 0) (k + 3) 0 (nI (xN (B 12) e)) 0) := w_la (w_la (w_la (w_la (w_it hS))))
  have hq := hP Ex PB nC nB cur nV nD LC LR W A TE BD Mc _ (xN (B 12) e) v m (k + 3) r ta hS1 gx1 ⟨gx, gx3, gx4⟩ hv hTx (by omega) (by omega) rLa_48 rLa_at.1 rLa_at.2.1 (by rw [w1 49 (by decide)]; exact h49) (by rw [w1 51 (by decide)]; exact h51)
  rw [ga_in hg]
  rcases hq with ⟨x1, nC', nB', cur', nV', nD', PB2, KC, KR, W', A', TE', BD', Mc1, Mm1, e1, e2, e3, e4, ⟨e5, e6, e7, e8⟩, e10, e11, e12⟩ | ⟨⟨x1, K, M', ox, e1, e2, e3⟩, LR', Mo, r', e4, e5, e6, e7, e8⟩
  · rw [e1, bi_some, dq_self, e2]
    obtain ⟨y2, hy2, hc1⟩ := hC1 x1 (LC ++ KC) Mc1 e3.2.1.1 e4
    rw [hc1]
    have i2 : Mm1 36 (k + 2) = nI 1 ∧ Mm1 37 (k + 2) = 0 := by
      obtain ⟨a1, a2, a3⟩ := e10.1 (k + 2) (by omega)
      rw [a1, a2, (rLa_as (show k + 2 ≠ k + 3 by omega)).1, (rLa_as (show k + 2 ≠ k + 3 by omega)).2.1]
      exact ⟨rLa_at.1, rLa_at.2.1⟩
    have i1 : Mm1 36 (k + 1) = nI 0 ∧ Mm1 37 (k + 1) = nI (xN (B 13) e) := by
      obtain ⟨a1, a2, a3⟩ := e10.1 (k + 1) (by omega)
      rw [a1, a2, (rLa_as (show k + 1 ≠ k + 3 by omega)).1, (rLa_as (show k + 1 ≠ k + 3 by omega)).2.1, (rLa_as (show k + 1 ≠ k + 2 by omega)).1, (rLa_as (show k + 1 ≠ k + 2 by omega)).2.1]
      exact ⟨rLa_at.1, rLa_at.2.1⟩
    have i0 : Mm1 36 k = nI s1 ∧ Mm1 37 k = nI kd := by
      obtain ⟨a1, a2, a3⟩ := e10.1 k (by omega)
      rw [a1, a2, (rLa_as (show k ≠ k + 3 by omega)).1, (rLa_as (show k ≠ k + 3 by omega)).2.1, (rLa_as (show k ≠ k + 2 by omega)).1, (rLa_as (show k ≠ k + 2 by omega)).2.1, (rLa_as (show k ≠ k + 1 by omega)).1, (rLa_as (show k ≠ k + 1 by omega)).2.1]
      exact ⟨rLa_at.1, rLa_at.2.1⟩
    have wk0 : wK k r Mm1 Mm := (e10.less (by omega) (Nat.le_refl _)).trans ⟨fun j hj => ⟨by rw [(rLa_as (show j ≠ k + 3 by omega)).1, (rLa_as (show j ≠ k + 2 by omega)).1, (rLa_as (show j ≠ k + 1 by omega)).1, (rLa_as (show j ≠ k by omega)).1, up_ne (by decide)], by rw [(rLa_as (show j ≠ k + 3 by omega)).2.1, (rLa_as (show j ≠ k + 2 by omega)).2.1, (rLa_as (show j ≠ k + 1 by omega)).2.1, (rLa_as (show j ≠ k by omega)).2.1, up_ne (by decide)], by rw [(rLa_as (show j ≠ k + 3 by omega)).2.2, (rLa_as (show j ≠ k + 2 by omega)).2.2, (rLa_as (show j ≠ k + 1 by omega)).2.2, (rLa_as (show j ≠ k by omega)).2.2, up_ne (by decide)]⟩, fun j hj => by rw [rLa_o (by decide) (by decide), rLa_o (by decide) (by decide), rLa_o (by decide) (by decide), rLa_o (by decide) (by decide), up_ne (by decide)]⟩
    have hb40 : ∀ i, i < nV → TE' i = TE i ∧ BD' i = BD i ∧ Mm1 40 i = Mm 40 i := fun i hi => ⟨(e12 i hi).1, (e12 i hi).2.1, by rw [(e12 i hi).2.2, rLa_o (by decide) (by decide), rLa_o (by decide) (by decide), rLa_o (by decide) (by decide), rLa_o (by decide) (by decide), up_ne (by decide)]⟩
    have hdp := (r_item (show k + 2 < 400 by omega) e5 i2.1 i2.2).2.1 rfl
    have hS2 : wS p nE B Bm L LM0 FR k0 Ex (PB ++ PB2) nC' nB' cur' nV' nD' (LC ++ KC) (LR ++ KR) W' A' TE' BD' Mc1 (sm_up Mm1 1 48 (nI (k + 2))) := w_it e3
    have hv' : v < nV' := by omega
    have h39 : sm_up Mm1 1 48 (nI (k + 2)) 39 = Mm1 39 := up_ne (by decide)
    unfold cSeg
    rcases w_push (d0 := d0) (d1 := d1) (d2 := d2) (d3 := d3) (bn := 0) (u := ta) (x := x1) hg hp hL hM0 hS2 hv' (by rw [up_as (by decide)]; exact e7) (show r ≤ 390 by omega) (by rw [up_as (by decide)]; exact e6) e4 (by rw [h39]; exact e8) (Or.inl rfl) with ⟨W3, KC3, KR3, Mc2, Mc3, Mm3, f1, f2, f3, f4, f5, f6, f7, f8, f9, f10, f11, f12⟩ | ⟨K3, Mc2, Mo, f1, f2, f3, f4, f5⟩
    · have f3' : jW_extend d0 d1 d2 d3 p (nI v) x1 0 Mc2 = some (nI nV', [d0, d1, d2, d3, p], Mc3) := f3
      have f4' : jR_push 0 [] (sm_up Mm1 1 48 (nI (k + 2))) = some (0, [], Mm3) := f4
      rw [f4', bi_some, dq_self] at hdp
      rw [ga_in hg, f1, bi_some, dq_self, ga_in hg, f3', bi_some, dq_self, f2 13 (by decide) (by decide), gy2, w_loop (by omega) e5 e3.o47 hdp, ga_in hg]
      have z48 : Mm3 1 48 = nI (k + 1 + 1) := by rw [f8, up_at]
      have row9 : ∀ q, q = 36 ∨ q = 37 ∨ q = 38 ∨ q = 39 → Mm3 q = Mm1 q := fun q hq => by rw [f9 q hq, up_ne (by omega)]
      have hTy' : pT (B 10) (B 11) (B 12) (B 13) (B 14) L m' ((fun i => if i = nV' then (if 0 = 1 then ta :: BD' v else BD' v) else BD' i) nV') (xN (B 13) e) tb := by
        show pT (B 10) (B 11) (B 12) (B 13) (B 14) L m' (if nV' = nV' then (if 0 = 1 then ta :: BD' v else BD' v) else BD' nV') (xN (B 13) e) tb
        rw [if_pos rfl, if_neg (by decide), (hb40 v hv).2.1]
        exact hTy
      have hq2 := hP Ex (PB ++ PB2) (nC' + 1) nB' cur' (nV' + 1) nD' (LC ++ KC ++ KC3) (LR ++ KR ++ KR3) W3 A' _ _ Mc3 Mm3 (xN (B 13) e) nV' m' (k + 1) r tb f5 gy1 ⟨gy, gy3, gy4⟩ (Nat.lt_succ_self _) hTy' (by omega) (by omega) z48 (by rw [row9 36 (by decide)]; exact i1.1) (by rw [row9 37 (by decide)]; exact i1.2) f7 f6
      have wk3 : wK k r Mm3 Mm := wK.trans (Y := Mm1) ⟨fun j hj => by rw [row9 36 (by decide), row9 37 (by decide), row9 38 (by decide)]; exact ⟨rfl, rfl, rfl⟩, fun j hj => by rw [row9 39 (by decide)]⟩ wk0
      rcases hq2 with ⟨x4, nC4, nB4, cur4, nV4, nD4, PB4, KC4, KR4, W4, A4, TE4, BD4, Mc4, Mm4, g1, g2, g3, g4, ⟨g5, g6, g7, g8⟩, g10, g11, g12⟩ | ⟨⟨x4, K4, M4, ox4, g1, g2, g3⟩, LR4, Mo4, r4, g4, g5, g6, g7, g8⟩
      · rw [g1, bi_some, dq_self, g2]
        rw [List.append_assoc PB, List.append_assoc (LC ++ KC), List.append_assoc LC, List.append_assoc (LR ++ KR), List.append_assoc LR] at g3
        rw [List.append_assoc (LC ++ KC), List.append_assoc LC] at g4
        rw [List.append_assoc (LR ++ KR), List.append_assoc LR] at g8
        have e4' : ty_pr (LC ++ (KC ++ (KC3 ++ KC4))) x1 (some ta) := by rw [← List.append_assoc]; exact e4.grow
        have hy2' : Q (LC ++ (KC ++ (KC3 ++ KC4))) y2 := by rw [← List.append_assoc]; exact hQg _ _ _ hy2
        obtain ⟨a1, a2, a3⟩ := g12 nV' (Nat.lt_succ_self _)
        have tev : TE4 nV' = tyP (TE v) ta := by
          rw [a1]
          show (if nV' = nV' then tyP (TE' v) ta else TE' nV') = _
          rw [if_pos rfl, (hb40 v hv).1]
        obtain ⟨-, -, c3⟩ := g3.2.2.2.2.2.2.1 nV' (by omega)
        have h41 : ty_pr (LR ++ (KR ++ (KR3 ++ KR4))) (Mm4 41 nV') (some ta) := by
          rcases c3 with ⟨-, -, c3, -⟩ | ⟨j, u, -, -, -, c4, c5, -⟩
          · rw [tev] at c3
            exact absurd (ty_mk_inj c3).1 (by decide)
          · rw [tev] at c4
            rw [(tyP_inj c4).2]
            exact c5
        refine hF x1 y2 x4 nV' nC4 nB4 cur4 nV4 nD4 (PB2 ++ PB4) (KC ++ (KC3 ++ KC4)) (KR ++ (KR3 ++ KR4)) W4 A4 TE4 BD4 Mc4 Mm4 g3 e4' hy2' g4 (by omega) tev (by rw [a3]; exact f10) h41 g5 ?_ ?_ g6 g8 g7 ((g10.less (by omega) (Nat.le_refl _)).trans wk3) (by omega) (fun i hi => ?_)
        · rw [(g10.1 k (by omega)).1, row9 36 (by decide)]; exact i0.1
        · rw [(g10.1 k (by omega)).2.1, row9 37 (by decide)]; exact i0.2
        · obtain ⟨b1, b2, b3⟩ := g12 i (by omega)
          obtain ⟨b4, b5, b6⟩ := hb40 i hi
          refine ⟨?_, ?_, ?_⟩
          · rw [b1, ← b4]; exact if_neg (by omega)
          · rw [b2, ← b5]; exact if_neg (by omega)
          · rw [b3, f12 i (by omega), up_ne (by decide)]; exact b6
      · rw [g1, bi_some, dq_self]
        refine Or.inr ⟨?_, LR4, Mo4, r4, g4, g5, g6, g7, g8⟩
        obtain ⟨oy, hoy⟩ := hQn _ _ hy2
        refine cOv.back (K := KC) (cOv.back (K := KC3) (cOv.back (K := K4) ?_))
        exact hFO x1 y2 x4 _ M4 (some ta) oy ox4 (g2.less (by omega)) e4.grow.grow hoy.grow.grow g3
    · have f3' : jR_push 0 [] (sm_up Mm1 1 48 (nI (k + 2))) = some (0, [], Mo) := f3
      rw [f3', bi_some, dq_self] at hdp
      refine Or.inr ⟨?_, LR ++ KR ++ K3, Mo, r, ?_, f4, f5, Nat.le_refl _, by omega⟩
      · have f2' : wOc p B L (LC ++ KC) (400 + n) nV Mc2 := (f2.mono (by omega)).less e11
        rw [ga_in hg, f1, bi_some, dq_self, ga_in hg, c_extO f2', bi_some, dq_self, ga_in hg, w_wrO f2' hn1, bi_some, dq_self]
        obtain ⟨oy, hoy⟩ := hQn _ _ hy2
        exact cOv.back (K := KC) (hFO x1 y2 0 _ Mc2 (some ta) oy (some tyN) f2' e4 hoy (Or.inr ⟨0, tyN, rfl, f2'.tn hL0, nI_0.symm⟩))
      · rw [w_loop (by omega) e5 e3.o47 hdp, w_stop f4.2.2.1]
  · rw [e1, bi_some, dq_self]
    refine Or.inr ⟨?_, LR', Mo, r', e4, e5, e6, e7, e8⟩
    obtain ⟨y2, oy, hoy, hc1⟩ := hC1O x1 (LC ++ K) M' ox e2 e3
    rw [hc1]
    refine cOv.back (K := K) (cSegO (ox := ox) hg hp hn1 e2 (e2.tn hL0) (fun M hM => ?_))
    exact hFO x1 y2 0 _ M ox oy (some tyN) hM e3 hoy (Or.inr ⟨0, tyN, rfl, hM.tn hL0, nI_0.symm⟩)
end
