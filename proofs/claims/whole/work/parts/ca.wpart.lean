/-! compile: what may be asked of the writing one step less deep; halves -/
def wP (p nE d0 d1 d2 d3 : Nat) (B Bm : sm_M) (L LM0 FR : List Ty) (k0 n : Nat) : Prop := ∀ (Ex PB : List Nat) (nC nB cur nV nD : Nat) (LC LR : List Ty) (W : Nat → Ty) (A : Nat → Option Ty) (TE : Nat → Ty) (BD : Nat → List Ty) (Mc Mm : sm_M) (e v m k r : Nat) (t : Ty), wS p nE B Bm L LM0 FR k0 Ex PB nC nB cur nV nD LC LR W A TE BD Mc Mm → e < nE → (∃ g, B 15 e = nI g ∧ g ≤ n) → v < nV → pT (B 10) (B 11) (B 12) (B 13) (B 14) L m (BD v) e t → k + 3 * n ≤ 380 → r + n ≤ 380 → Mm 1 48 = nI (k + 1) → Mm 36 k = nI 0 → Mm 37 k = nI e → Mm 1 49 = nI r → Mm 1 51 = nI v → wQ p nE B Bm L LM0 FR k0 Ex PB nV LC LR TE BD [d0, d1, d2, d3, p] (400 + n) t v k r Mm (jW_write n d0 d1 d2 d3 p (nI e) (nI v) Mc) (jR_writeAll_12 [] Mm)
section
variable {p nE d0 d1 d2 d3 : Nat} {B Bm : sm_M} {L LM0 FR : List Ty} {k0 : Nat} {Ex PB : List Nat} {nC nB cur nV nD N mV k r v e m n h kd : Nat} {LC LR : List Ty} {W : Nat → Ty} {A : Nat → Option Ty} {TE : Nat → Ty} {BD : Nat → List Ty} {Mc Mm Mc' Mm' M : sm_M} {D : sm_D} {a b c x x' y y' z z' : Int32} {t ta tb : Ty}
theorem wS.len (hS : wS p nE B Bm L LM0 FR k0 Ex PB nC nB cur nV nD LC LR W A TE BD Mc Mm) (hL : L.length + FR.length ≤ 60) : LC.length ≤ 400 := by
  have := hS.2.1.2.2.2.2.1
  have := ct4_le (o := Mm 29) nC
  have := hS.1.1
  omega
theorem wS.row (hS : wS p nE B Bm L LM0 FR k0 Ex PB nC nB cur nV nD LC LR W A TE BD Mc Mm) {q : Nat} (h1 : 7 ≤ q) (h2 : q ≤ 28) : Mm q = Bm q := hS.2.2.2.2.2.2.2.2.2.1 q (Or.inl ⟨h1, h2⟩)
theorem wS.rowC (hS : wS p nE B Bm L LM0 FR k0 Ex PB nC nB cur nV nD LC LR W A TE BD Mc Mm) (hp : 40 ≤ p) {q : Nat} (h1 : 8 < q) (h2 : q < 24) : Mc q = B q := hS.2.2.2.2.2.2.2.2.1 q h1 (Or.inl h2) (Or.inl (by omega))
theorem wS.o47 (hS : wS p nE B Bm L LM0 FR k0 Ex PB nC nB cur nV nD LC LR W A TE BD Mc Mm) : Mm 1 47 = 0 := hS.2.2.2.1.2.2.2.1
theorem w_la (hS : wS p nE B Bm L LM0 FR k0 Ex PB nC nB cur nV nD LC LR W A TE BD Mc Mm) : wS p nE B Bm L LM0 FR k0 Ex PB nC nB cur nV nD LC LR W A TE BD Mc (rLa Mm k x y z) := wS_w hS (fun q a b => rLa_o a (by omega)) (fun j a _ _ => rLa_1 a)
theorem wOc.less {mV' : Nat} (h : wOc p B L LC N mV M) (hm : mV' ≤ mV) : wOc p B L LC N mV' M := ⟨⟨h.1.1, fun i hi => h.1.2 i (by omega)⟩, h.2⟩
theorem cOv.less {mV' : Nat} {jc : Option sm_S} (h : cOv p B L LC N mV D jc) (hm : mV' ≤ mV) : cOv p B L LC N mV' D jc := by
  obtain ⟨x, K, M', ox, e, h2, h3⟩ := h
  exact ⟨x, K, M', ox, e, h2.less hm, h3⟩
/-- what the reference begins with, by the kind -/
theorem r_wsel {N : sm_M} (he : e < 40) (hk : N 12 e = nI kd) : ((kd = 2 ∨ kd = 3 ∨ kd = 4 ∨ kd = 7 ∨ kd = 8) → jR_write (nI e) [] N = jR_write_128 (nI e) [] N) ∧ (kd = 5 → jR_write (nI e) [] N = sm_bi (jR_doLater 5 (nI e) 0 [] N) (fun x2 E2 M2 => sm_dq E2 [] (jR_write_190 (nI e) [] M2))) ∧ (kd = 6 → jR_write (nI e) [] N = sm_bi (jR_lambda (nI e) [] N) (fun x1 E1 M1 => sm_dq E1 [] (some (0, [], M1)))) ∧ ((kd = 9 ∨ kd = 10) → jR_write (nI e) [] N = jR_write_110 (nI e) [] N) := by
  have ke : ∀ {ρ : Type} {q : Option ρ}, sm_ck (nI e) 40 q = q := ck_nI he (by decide)
  have ce : (nI e).toNatClampNeg = e := nI_clamp (by omega)
  unfold jR_write
  simp only [ke, ce, hk]
  refine ⟨fun h => ?_, fun h => ?_, fun h => ?_, fun h => ?_⟩
  · rcases h with rfl | rfl | rfl | rfl | rfl
    · rw [if_neg (show ¬ nI 2 = 0 by decide), if_neg (show ¬ nI 2 = 1 by decide), if_pos (show nI 2 = 2 from rfl)]
    · rw [if_neg (show ¬ nI 3 = 0 by decide), if_neg (show ¬ nI 3 = 1 by decide), if_neg (show ¬ nI 3 = 2 by decide), if_pos (show nI 3 = 3 from rfl)]
    · rw [if_neg (show ¬ nI 4 = 0 by decide), if_neg (show ¬ nI 4 = 1 by decide), if_neg (show ¬ nI 4 = 2 by decide), if_neg (show ¬ nI 4 = 3 by decide), if_pos (show nI 4 = 4 from rfl)]
    · rw [if_neg (show ¬ nI 7 = 0 by decide), if_neg (show ¬ nI 7 = 1 by decide), if_neg (show ¬ nI 7 = 2 by decide), if_neg (show ¬ nI 7 = 3 by decide), if_neg (show ¬ nI 7 = 4 by decide), if_neg (show ¬ nI 7 = 5 by decide), if_neg (show ¬ nI 7 = 6 by decide), if_pos (show nI 7 = 7 from rfl)]
    · rw [if_neg (show ¬ nI 8 = 0 by decide), if_neg (show ¬ nI 8 = 1 by decide), if_neg (show ¬ nI 8 = 2 by decide), if_neg (show ¬ nI 8 = 3 by decide), if_neg (show ¬ nI 8 = 4 by decide), if_neg (show ¬ nI 8 = 5 by decide), if_neg (show ¬ nI 8 = 6 by decide), if_neg (show ¬ nI 8 = 7 by decide), if_pos (show nI 8 = 8 from rfl)]
  · subst h
    rw [if_neg (show ¬ nI 5 = 0 by decide), if_neg (show ¬ nI 5 = 1 by decide), if_neg (show ¬ nI 5 = 2 by decide), if_neg (show ¬ nI 5 = 3 by decide), if_neg (show ¬ nI 5 = 4 by decide), if_pos (show nI 5 = 5 from rfl)]
  · subst h
    rw [if_neg (show ¬ nI 6 = 0 by decide), if_neg (show ¬ nI 6 = 1 by decide), if_neg (show ¬ nI 6 = 2 by decide), if_neg (show ¬ nI 6 = 3 by decide), if_neg (show ¬ nI 6 = 4 by decide), if_neg (show ¬ nI 6 = 5 by decide), if_pos (show nI 6 = 6 from rfl)]
  · rcases h with rfl | rfl
    · rw [if_neg (show ¬ nI 9 = 0 by decide), if_neg (show ¬ nI 9 = 1 by decide), if_neg (show ¬ nI 9 = 2 by decide), if_neg (show ¬ nI 9 = 3 by decide), if_neg (show ¬ nI 9 = 4 by decide), if_neg (show ¬ nI 9 = 5 by decide), if_neg (show ¬ nI 9 = 6 by decide), if_neg (show ¬ nI 9 = 7 by decide), if_neg (show ¬ nI 9 = 8 by decide), if_pos (show nI 9 = 9 from rfl)]
    · rw [if_neg (show ¬ nI 10 = 0 by decide), if_neg (show ¬ nI 10 = 1 by decide), if_neg (show ¬ nI 10 = 2 by decide), if_neg (show ¬ nI 10 = 3 by decide), if_neg (show ¬ nI 10 = 4 by decide), if_neg (show ¬ nI 10 = 5 by decide), if_neg (show ¬ nI 10 = 6 by decide), if_neg (show ¬ nI 10 = 7 by decide), if_neg (show ¬ nI 10 = 8 by decide), if_neg (show ¬ nI 10 = 9 by decide), if_pos (show nI 10 = 10 from rfl)]
/-- FIRST and SECOND -/
theorem w_half (hg : [p] ∈ gC) (hp : 40 ≤ p) (hH : vH nE L B Bm) (hP : wP p nE d0 d1 d2 d3 B Bm L LM0 FR k0 n) (hL : L.length + FR.length ≤ 60) (hn8 : n ≤ 8) (hS : wS p nE B Bm L LM0 FR k0 Ex PB nC nB cur nV nD LC LR W A TE BD Mc Mm) (he : e < nE) (hkd : B 10 e = nI kd) (kk : kd = 9 ∨ kd = 10) (px : exP B e h (B 12 e)) (hh : h ≤ n + 1) (hv : v < nV) (hT : pT (B 10) (B 11) (B 12) (B 13) (B 14) L m (BD v) (xN (B 12) e) (tyP ta tb)) (ht : t = if kd = 9 then ta else tb) (hk : k + 3 * (n + 1) ≤ 380) (hr : r + (n + 1) ≤ 380) (h48 : Mm 1 48 = nI (k + 1)) (h36 : Mm 36 k = nI 0) (h37 : Mm 37 k = nI e) (h49 : Mm 1 49 = nI r) (h51 : Mm 1 51 = nI v) : wQ p nE B Bm L LM0 FR k0 Ex PB nV LC LR TE BD [d0, d1, d2, d3, p] (400 + (n + 1)) t v k r Mm (jW_writePart (jW_write n) d0 d1 d2 d3 p (nI e) (nI v) (nI (kd - 9)) Mc) (jR_writeAll_12 [] Mm) := by
  have hl := hH.1
  obtain ⟨q1, q2, q3, q4, q5⟩ := hH.2.1 e he
  have ke : ∀ {ρ : Type} {q : Option ρ}, sm_ck (nI e) 40 q = q := ck_nI (by omega) (by decide)
  have ce : (nI e).toNatClampNeg = e := nI_clamp (by omega)
  obtain ⟨g, g1, g2, g3, g4⟩ : ∃ g, xN (B 12) e < nE ∧ B 12 e = nI (xN (B 12) e) ∧ B 15 (xN (B 12) e) = nI g ∧ g ≤ n := by
    obtain ⟨e', g, a1, a2, a3, a4⟩ := px
    have hx : xN (B 12) e = e' := by unfold xN; rw [a2]; exact nI_clamp (by omega)
    exact ⟨g, by omega, by rw [hx]; exact a2, by rw [hx]; exact a3, by omega⟩
  have m12 : sm_up Mm 1 48 (nI k) 12 e = nI kd := by rw [up_ne (by decide), hS.row (by decide) (by decide), q1]; exact hkd
  have m14 : ∀ {N : sm_M}, (∀ q, 38 < q ∨ q < 36 → q ≠ 1 → N q = Mm q) → N 14 e = nI (xN (B 12) e) := fun hN => by rw [hN 14 (by decide) (by decide), hS.row (by decide) (by decide), q3]; exact g2
  have hdn := (r_item (by omega) h48 h36 h37).1 rfl
  have e9 : nI kd - 9 = nI (kd - 9) := by rcases kk with rfl | rfl <;> decide
  have hd1 : jR_doNext [] Mm = some (0, [], rLa (rLa (sm_up Mm 1 48 (nI k)) k 4 (nI (kd - 9)) 0) (k + 1) 0 (nI (xN (B 12) e)) 0) := by
    rw [hdn]
    rw [(r_wsel (by omega) m12).2.2.2 kk]
    unfold jR_write_110 jR_write_190
    simp only [ke, ce, m12, e9]
    rw [r_later (by omega) up_at, bi_some, dq_self, m14 (N := rLa (sm_up Mm 1 48 (nI k)) k 4 (nI (kd - 9)) 0) (fun q a b => by rw [rLa_o b (by omega), up_ne b]), r_later (by omega) rLa_48, bi_some, dq_self, bi_some, dq_self]
  rw [w_loop (by omega) h48 hS.o47 hd1]
  have hS1 : wS p nE B Bm L LM0 FR k0 Ex PB nC nB cur nV nD LC LR W A TE BD Mc (rLa (rLa (sm_up Mm 1 48 (nI k)) k 4 (nI (kd - 9)) 0) (k + 1) 0 (nI (xN (B 12) e)) 0) := w_la (w_la (w_it hS))
  have hq := hP Ex PB nC nB cur nV nD LC LR W A TE BD Mc _ (xN (B 12) e) v m (k + 1) r (tyP ta tb) hS1 g1 ⟨g, g3, g4⟩ hv hT (by omega) (by omega) rLa_48 rLa_at.1 rLa_at.2.1 (by rw [rLa_1 (by decide), rLa_1 (by decide), up_as (by decide)]; exact h49) (by rw [rLa_1 (by decide), rLa_1 (by decide), up_as (by decide)]; exact h51)
  unfold jW_writePart jW_writePart_52
  rw [ke, ce, hS.rowC hp (by decide) (by decide), g2, ga_in hg]
  have h01 : nI (kd - 9) = 0 ∨ nI (kd - 9) = 1 := by
    rcases kk with rfl | rfl
    · exact Or.inl rfl
    · exact Or.inr rfl
  rcases hq with ⟨x, nC', nB', cur', nV', nD', PB2, KC, KR, W', A', TE', BD', Mc1, Mm1, e1, e2, e3, e4, ⟨e5, e6, e7, e8⟩, e10, e11, e12⟩ | ⟨⟨x, K, M', ox, e1, e2, e3⟩, LR', Mo, r', e4, e5, e6, e7, e8⟩
  · rw [e1, bi_some, dq_self, e2]
    -- the item of work
    have i36 : Mm1 36 k = nI 4 := by rw [(e10.1 k (by omega)).1, (rLa_as (show k ≠ k + 1 by omega)).1, rLa_at.1]; rfl
    have i37 : Mm1 37 k = nI (kd - 9) := by rw [(e10.1 k (by omega)).2.1, (rLa_as (show k ≠ k + 1 by omega)).2.1, rLa_at.2.1]
    have hS2 : wS p nE B Bm L LM0 FR k0 Ex (PB ++ PB2) nC' nB' cur' nV' nD' (LC ++ KC) (LR ++ KR) W' A' TE' BD' Mc1 (sm_up (sm_up Mm1 1 48 (nI k)) 1 49 (nI r)) := wS_w (w_it e3) (fun q a _ => up_ne a) (fun j _ a _ => up_as a)
    have kk4 : ∀ {ρ : Type} {q : Option ρ}, sm_ck (nI k) 400 q = q := ck_nI (by omega) (by decide)
    have ck4 : (nI k).toNatClampNeg = k := nI_clamp (by omega)
    have hLC := e3.len hL
    rcases e4 with ⟨z, -⟩ | ⟨jx, ux, zx, hjx, rfl⟩
    · cases z
    rw [← Option.some.inj zx] at hjx
    obtain ⟨-, -, rp1, rp2, -⟩ := hS2.2.1.1.row hjx
    rcases e8 with ⟨z, -⟩ | ⟨jy, uy, zy, hjy, ey⟩
    · cases z
    rw [← Option.some.inj zy] at hjy
    have jy3 : jy < 3000 := by
      have := (List.getElem?_eq_some_iff.mp hjy).1
      have := hS2.2.1.2.2.1.1
      omega
    have hdo : jR_doNext [] Mm1 = sm_bi (jR_emit 5 2 2 (nI (kd - 9)) [] (sm_up (sm_up Mm1 1 48 (nI k)) 1 49 (nI r))) (fun x10 E10 M10 => sm_dq E10 [] (if nI (kd - 9) = (0 : Int32) then (jR_doNext_215 (M10 3 jy) [] M10) else (jR_doNext_215 (M10 4 jy) [] M10))) := by
      unfold jR_doNext
      simp only [sm_wr, e5, nI_pred, up_at, kk4, ck4]
      rw [up_ne (show (36 : Nat) ≠ 1 by decide), up_ne (show (37 : Nat) ≠ 1 by decide), i36, i37, if_neg (show ¬ nI 4 = 0 by decide), if_neg (show ¬ nI 4 = 1 by decide), if_neg (show ¬ nI 4 = 2 by decide), if_neg (show ¬ nI 4 = 3 by decide), if_pos (show nI 4 = 4 from rfl), r_done (r := r) (by omega) (by rw [up_as (by decide)]; exact e6), bi_some, dq_self, up_ne (show (39 : Nat) ≠ 1 by decide), ey]
      simp only [ck_nI jy3 (show (3000 : Nat) < 2 ^ 31 by decide), nI_clamp (show jy < 2 ^ 31 by omega)]
    have z49 : sm_up (sm_up Mm1 1 48 (nI k)) 1 49 (nI r) 1 49 = nI r := up_at
    have wk0 : wK k r Mm1 Mm := (e10.less (by omega) (Nat.le_refl _)).trans ⟨fun j hj => ⟨by rw [(rLa_as (show j ≠ k + 1 by omega)).1, (rLa_as (show j ≠ k by omega)).1, up_ne (by decide)], by rw [(rLa_as (show j ≠ k + 1 by omega)).2.1, (rLa_as (show j ≠ k by omega)).2.1, up_ne (by decide)], by rw [(rLa_as (show j ≠ k + 1 by omega)).2.2, (rLa_as (show j ≠ k by omega)).2.2, up_ne (by decide)]⟩, fun j hj => by rw [rLa_o (by decide) (by decide), rLa_o (by decide) (by decide), up_ne (by decide)]⟩
    have hfi : ∀ {Mc : sm_M}, tabC Mc (LC ++ KC) → (∀ {D : sm_D}, jT_firstOf (nI jx) D Mc = some (Mc 3 jx, D, Mc)) ∧ (∀ {D : sm_D}, jT_secondOf (nI jx) D Mc = some (Mc 4 jx, D, Mc)) := fun hT => ⟨j_firstOf hT hjx, j_secondOf hT hjx⟩
    rcases w_put (D := [d0, d1, d2, d3, p]) (o := 5) (a := 2) (b := 2) (c := nI (kd - 9)) (c' := nI (kd - 9)) hg hp hS2 (hLC) (by decide) rfl rfl rfl (fLoad rg2 rg2 h01) (fun _ => rfl) (fun q => absurd q (by decide)) with ⟨W2, Mc2, Mm2, f1, f2, f3, f4, f5, f6⟩ | ⟨Mc2, f1, f2, f3, f4⟩
    · have f1' : jC_put p 5 2 2 (nI (kd - 9)) [d0, d1, d2, d3, p] Mc1 = some (0, [d0, d1, d2, d3, p], Mc2) := f1
      have f2' : jR_emit 5 2 2 (nI (kd - 9)) [] (sm_up (sm_up Mm1 1 48 (nI k)) 1 49 (nI r)) = some (0, [], Mm2) := f2
      obtain ⟨hf, hs⟩ := hfi f3.2.1.1
      obtain ⟨-, -, u1, u2, -⟩ := f3.2.1.1.row hjx
      obtain ⟨-, -, w1, w2, -⟩ := f3.2.1.2.2.1.row hjy
      have y49 : Mm2 1 49 = nI r := by rw [f6 49 (by decide)]; exact z49
      rw [ga_in hg, f1', bi_some, dq_self, hf, hs, bi_some, bi_some, dq_self, dq_self, dq_self, dq_self]
      rw [f2', bi_some, dq_self] at hdo
      unfold jR_doNext_215 jR_doNext_323 at hdo
      rw [r_fin (by omega) y49, r_fin (by omega) y49, bi_some, bi_some, dq_self, dq_self] at hdo
      have fin : ∀ {xx yy : Int32} {tt : Ty}, ty_pr (LC ++ KC) xx (some tt) → ty_pr (LR ++ KR) yy (some tt) → jR_doNext [] Mm1 = some (0, [], rPu Mm2 r yy) → wY p nE B Bm L LM0 FR k0 Ex PB nV LC LR TE BD [d0, d1, d2, d3, p] tt v k r Mm (some (xx, [d0, d1, d2, d3, p], Mc2)) (jR_writeAll_12 [] Mm1) := by
        intro xx yy tt hx hy hdn2
        refine ⟨xx, nC' + 1, nB', cur', nV', nD', PB2, KC, KR, W2, A', TE', BD', Mc2, rPu Mm2 r yy, rfl, w_loop (by omega) e5 e3.o47 hdn2, w_fin f3, hx, ⟨by rw [rPu_1 (by decide), f6 48 (by decide), up_as (by decide), up_at], rPu_49, by rw [rPu_1 (by decide), f6 51 (by decide), up_as (by decide), up_as (by decide)]; exact e7, by rw [rPu_39, upd_at]; exact hy⟩, wK.trans (Y := Mm1) ⟨fun j hj => ?_, fun j hj => ?_⟩ wk0, e11, fun i hi => ⟨(e12 i hi).1, (e12 i hi).2.1, by rw [rPu_o (by decide) (by decide), f5 40 (by decide), up_ne (by decide), up_ne (by decide), (e12 i hi).2.2, rLa_o (by decide) (by decide), rLa_o (by decide) (by decide), up_ne (by decide)]⟩⟩
        · rw [rPu_o (by decide) (by decide), rPu_o (by decide) (by decide), rPu_o (by decide) (by decide), f5 36 (by decide), f5 37 (by decide), f5 38 (by decide), up_ne (by decide), up_ne (by decide), up_ne (by decide), up_ne (by decide), up_ne (by decide), up_ne (by decide)]
          exact ⟨rfl, rfl, rfl⟩
        · rw [rPu_39, upd_ne (by omega), f5 39 (by decide), up_ne (by decide), up_ne (by decide)]
      rcases kk with rfl | rfl
      · rw [if_pos (show nI (9 - 9) = 0 from nI_0)] at hdo ⊢
        rw [if_pos rfl] at ht
        subst ht
        exact Or.inl (fin u1 w1 hdo)
      · rw [if_neg (show ¬ nI (10 - 9) = 0 by decide)] at hdo ⊢
        rw [if_neg (by decide)] at ht
        subst ht
        exact Or.inl (fin u2 w2 hdo)
    · have f1' : jC_put p 5 2 2 (nI (kd - 9)) [d0, d1, d2, d3, p] Mc1 = some (0, [d0, d1, d2, d3, p], Mc2) := f1
      have f3' : jR_emit 5 2 2 (nI (kd - 9)) [] (sm_up (sm_up Mm1 1 48 (nI k)) 1 49 (nI r)) = some (0, [], sm_up (sm_up (sm_up Mm1 1 48 (nI k)) 1 49 (nI r)) 1 47 1) := f3
      have y49 : sm_up (sm_up (sm_up Mm1 1 48 (nI k)) 1 49 (nI r)) 1 47 1 1 49 = nI r := by rw [up_as (by decide)]; exact z49
      rw [f3', bi_some, dq_self] at hdo
      unfold jR_doNext_215 jR_doNext_323 at hdo
      rw [r_fin (by omega) y49, r_fin (by omega) y49, bi_some, bi_some, dq_self, dq_self] at hdo
      obtain ⟨yy, hyy⟩ : ∃ yy, jR_doNext [] Mm1 = some (0, [], rPu (sm_up (sm_up (sm_up Mm1 1 48 (nI k)) 1 49 (nI r)) 1 47 1) r yy) := by
        by_cases z : nI (kd - 9) = (0 : Int32)
        · rw [if_pos z] at hdo; exact ⟨_, hdo⟩
        · rw [if_neg z] at hdo; exact ⟨_, hdo⟩
      obtain ⟨hf, hs⟩ := hfi f2.1.1
      refine Or.inr ⟨?_, LR ++ KR, rPu (sm_up (sm_up (sm_up Mm1 1 48 (nI k)) 1 49 (nI r)) 1 47 1) r yy, r + 1, ?_, wOr_f f4, rPu_49, by omega, by omega⟩
      · rw [ga_in hg, f1', bi_some, dq_self, hf, hs, bi_some, bi_some, dq_self, dq_self, dq_self, dq_self]
        obtain ⟨-, -, u1, u2, -⟩ := f2.1.1.row hjx
        have f2' := (f2.mono (show 400 ≤ 400 + (n + 1) by omega)).less e11
        refine cOv.back (K := KC) ?_
        by_cases z : nI (kd - 9) = (0 : Int32)
        · rw [if_pos z]; exact cOv.ret f2' u1
        · rw [if_neg z]; exact cOv.ret f2' u2
      · rw [w_loop (by omega) e5 e3.o47 hyy, w_stop (by rw [rPu_1 (by decide), up_at])]
  · refine Or.inr ⟨?_, LR', Mo, r', e4, e5, e6, e7, e8⟩
    rw [e1, bi_some, dq_self]
    refine cOv.back (K := K) ?_
    refine cOv.put (o := 5) hg hp (e2.mono (show 400 + n ≤ 400 + (n + 1) by omega)) (by decide) (fun q => absurd q (by decide)) (fun M hM => ?_)
    obtain ⟨⟨y1, o1, a1, a2⟩, ⟨y2, o2, a3, a4⟩⟩ := c_anyP hM.1.1 e3
    rw [dq_self, a1, a3, bi_some, bi_some, dq_self, dq_self, dq_self, dq_self]
    by_cases z : nI (kd - 9) = (0 : Int32)
    · rw [if_pos z]; exact cOv.ret hM a2
    · rw [if_neg z]; exact cOv.ret hM a4
end
