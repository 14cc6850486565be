/-! compile: choices, the pieces -/
noncomputable def cH9 (p d0 d1 d2 d3 : Nat) (x3 x5 u : Int32) (M : sm_M) : Option sm_S := cPuts p [d0, d1, d2, d3, p] (fun M9 => sm_bi (sm_ga [p] gC (jC_open p x3 u x5 (-1) [d0, d1, d2, d3, p] M9)) (fun _ E M' => sm_dq E [d0, d1, d2, d3, p] (some (x5, [d0, d1, d2, d3, p], M')))) [(9, x3, 0, 0, 0)] M
noncomputable def cH7 (p d0 d1 d2 d3 n e : Nat) (v x3 x5 u : Int32) (M : sm_M) : Option sm_S := sm_bi (sm_ga [p] gC (jW_write n d0 d1 d2 d3 p (M 14 e) v M)) (fun _ E M' => sm_dq E [d0, d1, d2, d3, p] (cH9 p d0 d1 d2 d3 x3 x5 u M'))
noncomputable def cH6 (p d0 d1 d2 d3 n e : Nat) (v x2 x3 x5 u : Int32) (M : sm_M) : Option sm_S := sm_bi (sm_ga [p] gC (jC_open p x2 u (-1) (-1) [d0, d1, d2, d3, p] M)) (fun _ E M' => sm_dq E [d0, d1, d2, d3, p] (cH7 p d0 d1 d2 d3 n e v x3 x5 u M'))
noncomputable def cH5 (p d0 d1 d2 d3 n e : Nat) (v x2 x3 u x5 : Int32) (M : sm_M) : Option sm_S := cPuts p [d0, d1, d2, d3, p] (cH6 p d0 d1 d2 d3 n e v x2 x3 x5 u) [(9, x3, 0, 0, 0)] M
noncomputable def cH4 (p d0 d1 d2 d3 n e : Nat) (v x2 x3 u : Int32) (M : sm_M) : Option sm_S := sm_bi (sm_ga [p] gC (jW_write n d0 d1 d2 d3 p (M 13 e) v M)) (fun x5 E M' => sm_dq E [d0, d1, d2, d3, p] (cH5 p d0 d1 d2 d3 n e v x2 x3 u x5 M'))
noncomputable def cH3 (p d0 d1 d2 d3 n e : Nat) (v x2 x3 u : Int32) (M : sm_M) : Option sm_S := cPuts p [d0, d1, d2, d3, p] (cH4 p d0 d1 d2 d3 n e v x2 x3 u) [(10, 2, x2, 0, 0)] M
noncomputable def cH2 (p d0 d1 d2 d3 n e : Nat) (v x2 u : Int32) (M : sm_M) : Option sm_S := sm_bi (sm_ga [p] gC (jC_reserve p [d0, d1, d2, d3, p] M)) (fun x3 E M' => sm_dq E [d0, d1, d2, d3, p] (cH3 p d0 d1 d2 d3 n e v x2 x3 u M'))
noncomputable def cH1 (p d0 d1 d2 d3 n e : Nat) (v u : Int32) (M : sm_M) : Option sm_S := sm_bi (sm_ga [p] gC (jC_reserve p [d0, d1, d2, d3, p] M)) (fun x2 E M' => sm_dq E [d0, d1, d2, d3, p] (cH2 p d0 d1 d2 d3 n e v x2 u M'))
section
variable {p nE d0 d1 d2 d3 : Nat} {B Bm : sm_M} {L LM0 FR : List Ty} {k0 : Nat} {Ex PB : List Nat} {nC nB cur nV nD N mV k r v e m m' n h kd s1 : Nat} {LC LR : List Ty} {W : Nat → Ty} {A : Nat → Option Ty} {TE : Nat → Ty} {BD : Nat → List Ty} {Mc Mm Mc' Mm' M : sm_M} {D : sm_D} {a b c x x' y y' z z' x2 x3 x5 u vv : Int32} {t ta tb : Ty} {o1 o2 o3 ox ou : Option Ty}
theorem wJ_9 : ∀ i, i ∈ [((9 : Nat), x3, (0 : Int32), (0 : Int32), (0 : Int32))] → wJ LC i := fun i hi => by
  rw [List.mem_singleton.mp hi]
  exact ⟨show (9 : Nat) ≤ 12 by decide, fun q => absurd q (show ¬ (9 : Nat) = 7 by decide)⟩
theorem c_H9O (hg : [p] ∈ gC) (hp : 40 ≤ p) (hO : wOc p B L LC N mV M) (hx : ty_pr LC x5 ox) (hu : ty_pr LC u ou) : cOv p B L LC N mV [d0, d1, d2, d3, p] (cH9 p d0 d1 d2 d3 x3 x5 u M) := by
  unfold cH9
  exact cOv.puts hg hp hO wJ_9 (fun M' hO' => cOv.opn hg hp hO' hu hx m1n (fun M2 hO2 => by rw [dq_self]; exact cOv.ret hO2 hx))
theorem c_H7O (hg : [p] ∈ gC) (hp : 40 ≤ p) (hn : 1 ≤ n) (hO : wOc p B L LC N mV M) (hx : ty_pr LC x5 ox) (hu : ty_pr LC u ou) : cOv p B L LC N mV [d0, d1, d2, d3, p] (cH7 p d0 d1 d2 d3 n e vv x3 x5 u M) := by
  unfold cH7
  rw [ga_in hg, w_wrO hO hn, bi_some, dq_self]
  exact c_H9O hg hp hO hx hu
theorem c_H6O (hg : [p] ∈ gC) (hp : 40 ≤ p) (hn : 1 ≤ n) (hO : wOc p B L LC N mV M) (hx : ty_pr LC x5 ox) (hu : ty_pr LC u ou) : cOv p B L LC N mV [d0, d1, d2, d3, p] (cH6 p d0 d1 d2 d3 n e vv x2 x3 x5 u M) := by
  unfold cH6
  exact cOv.opn hg hp hO hu m1n m1n (fun M2 hO2 => by rw [dq_self]; exact c_H7O hg hp hn hO2 hx hu)
theorem c_H5O (hg : [p] ∈ gC) (hp : 40 ≤ p) (hn : 1 ≤ n) (hO : wOc p B L LC N mV M) (hx : ty_pr LC x5 ox) (hu : ty_pr LC u ou) : cOv p B L LC N mV [d0, d1, d2, d3, p] (cH5 p d0 d1 d2 d3 n e vv x2 x3 u x5 M) := by
  unfold cH5
  exact cOv.puts hg hp hO wJ_9 (fun M' hO' => c_H6O hg hp hn hO' hx hu)
theorem c_H4O (hg : [p] ∈ gC) (hp : 40 ≤ p) (hn : 1 ≤ n) (hL0 : L[0]? = some tyN) (hO : wOc p B L LC N mV M) (hu : ty_pr LC u ou) : cOv p B L LC N mV [d0, d1, d2, d3, p] (cH4 p d0 d1 d2 d3 n e vv x2 x3 u M) := by
  unfold cH4
  rw [ga_in hg, w_wrO hO hn, bi_some, dq_self]
  exact c_H5O hg hp hn hO (Or.inr ⟨0, tyN, rfl, hO.tn hL0, nI_0.symm⟩ : ty_pr LC 0 (some tyN)) hu
theorem c_H3O (hg : [p] ∈ gC) (hp : 40 ≤ p) (hn : 1 ≤ n) (hL0 : L[0]? = some tyN) (hO : wOc p B L LC N mV M) (hu : ty_pr LC u ou) : cOv p B L LC N mV [d0, d1, d2, d3, p] (cH3 p d0 d1 d2 d3 n e vv x2 x3 u M) := by
  unfold cH3
  refine cOv.puts hg hp hO (fun i hi => ?_) (fun M' hO' => c_H4O hg hp hn hL0 hO' hu)
  rw [List.mem_singleton.mp hi]
  exact ⟨show (10 : Nat) ≤ 12 by decide, fun q => absurd q (show ¬ (10 : Nat) = 7 by decide)⟩
theorem c_H2O (hg : [p] ∈ gC) (hp : 40 ≤ p) (hn : 1 ≤ n) (hL0 : L[0]? = some tyN) (hO : wOc p B L LC N mV M) (hu : ty_pr LC u ou) : cOv p B L LC N mV [d0, d1, d2, d3, p] (cH2 p d0 d1 d2 d3 n e vv x2 u M) := by
  unfold cH2
  exact cOv.res hg hp hO (fun x M' hO' => by rw [dq_self]; exact c_H3O hg hp hn hL0 hO' hu)
theorem c_H1O (hg : [p] ∈ gC) (hp : 40 ≤ p) (hn : 1 ≤ n) (hL0 : L[0]? = some tyN) (hO : wOc p B L LC N mV M) (hu : ty_pr LC u ou) : cOv p B L LC N mV [d0, d1, d2, d3, p] (cH1 p d0 d1 d2 d3 n e vv u M) := by
  unfold cH1
  exact cOv.res hg hp hO (fun x M' hO' => by rw [dq_self]; exact c_H2O hg hp hn hL0 hO' hu)
/-- the reference's items 5, 6 and 7 -/
theorem r_chs {M0 M2 M3 M4 : sm_M} (he : e < 40) (hr : r < 400) (h49 : M0 1 49 = nI (r + 1)) (n2 : jR_name [] (sm_up M0 1 49 (nI r)) = some (x2, [], M2)) (n3 : jR_name [] M2 = some (x3, [], M3)) (h10 : ∀ G : sm_M → Option sm_S, rPuts G [(10, 2, x2, 0, 0)] M3 = G M4) (h48 : M4 1 48 = nI k) (hk : k + 3 < 400) (h15 : M4 15 e = y) (h16 : M4 16 e = z) : jR_choose (nI e) [] M0 = some (0, [], rLa (rLa (rLa (rLa M4 k 7 x3 0) (k + 1) 0 z 0) (k + 2) 6 x2 x3) (k + 3) 0 y 0) := by
  have ke : ∀ {ρ : Type} {q : Option ρ}, sm_ck (nI e) 40 q = q := ck_nI (by omega) (by decide)
  have ce : (nI e).toNatClampNeg = e := nI_clamp (by omega)
  unfold jR_choose
  rw [r_done hr h49, bi_some, dq_self, n2, bi_some, dq_self, n3, bi_some, dq_self]
  simp only [ke, ce]
  refine (h10 _).trans ?_
  show sm_bi (jR_doLater 7 x3 0 [] M4) _ = _
  rw [r_later (by omega) h48, bi_some, dq_self, rLa_o (q := 16) (by decide) (by decide), h16, r_later (by omega) rLa_48, bi_some, dq_self, r_later (by omega) rLa_48, bi_some, dq_self, rLa_o (q := 15) (by decide) (by decide), rLa_o (q := 15) (by decide) (by decide), rLa_o (q := 15) (by decide) (by decide), h15, r_later (by omega) rLa_48, bi_some, dq_self]
noncomputable def rOp (x a b : Int32) (M : sm_M) : Option sm_S := sm_bi (jR_beginBlock x a b (-1) [] M) (fun _ E M' => sm_dq E [] (some (0, [], M')))
theorem r_it6 (hk : k < 400) (hr : r < 400) (h48 : M 1 48 = nI (k + 1)) (h36 : M 36 k = nI 6) (h37 : M 37 k = x2) (h38 : M 38 k = x3) (h49 : M 1 49 = nI (r + 1)) : jR_doNext [] M = rPuts (fun M6 => if M6 1 47 = 0 then sm_ck (M6 1 51) 1200 (rOp x2 (M6 42 (Int32.toNatClampNeg (M6 1 51))) (-1) M6) else some (0, [], M6)) [(9, x3, 0, 0, 0)] (sm_up (sm_up M 1 48 (nI k)) 1 49 (nI r)) := by
  have kk4 : ∀ {ρ : Type} {q : Option ρ}, sm_ck (nI k) 400 q = q := ck_nI hk (by decide)
  have ck4 : (nI k).toNatClampNeg = k := nI_clamp (by omega)
  have o36 : sm_up M 1 48 (nI k) 36 = M 36 := up_ne (by decide)
  have o37 : sm_up M 1 48 (nI k) 37 = M 37 := up_ne (by decide)
  have o38 : sm_up (sm_up M 1 48 (nI k)) 1 49 (nI r) 38 = M 38 := by rw [up_ne (by decide), up_ne (by decide)]
  have hd := r_done (M := sm_up M 1 48 (nI k)) hr (by rw [up_as (by decide)]; exact h49)
  unfold jR_doNext jR_doNext_323
  simp only [sm_wr, h48, nI_pred, up_at, kk4, ck4, o36, o37, h36, h37]
  rw [if_neg (show ¬ nI 6 = 0 by decide), if_neg (show ¬ nI 6 = 1 by decide), if_neg (show ¬ nI 6 = 2 by decide), if_neg (show ¬ nI 6 = 3 by decide), if_neg (show ¬ nI 6 = 4 by decide), if_neg (show ¬ nI 6 = 5 by decide), if_pos (show nI 6 = 6 from rfl), hd, bi_some, dq_self, o38, h38]
  rfl
theorem r_it7 (hk : k < 400) (h48 : M 1 48 = nI (k + 1)) (h36 : M 36 k = nI 7) (h37 : M 37 k = x3) : jR_doNext [] M = rPuts (fun M3 => if M3 1 47 = 0 then sm_ck (M3 1 51) 1200 (sm_ck (M3 1 49 - 1) 400 (rOp x3 (M3 42 (Int32.toNatClampNeg (M3 1 51))) (M3 39 (Int32.toNatClampNeg (M3 1 49 - 1))) M3)) else some (0, [], M3)) [(9, x3, 0, 0, 0)] (sm_up M 1 48 (nI k)) := by
  have kk4 : ∀ {ρ : Type} {q : Option ρ}, sm_ck (nI k) 400 q = q := ck_nI hk (by decide)
  have ck4 : (nI k).toNatClampNeg = k := nI_clamp (by omega)
  have o36 : sm_up M 1 48 (nI k) 36 = M 36 := up_ne (by decide)
  have o37 : sm_up M 1 48 (nI k) 37 = M 37 := up_ne (by decide)
  unfold jR_doNext jR_doNext_323
  simp only [sm_wr, h48, nI_pred, up_at, kk4, ck4, o36, o37, h36, h37]
  rw [if_neg (show ¬ nI 7 = 0 by decide), if_neg (show ¬ nI 7 = 1 by decide), if_neg (show ¬ nI 7 = 2 by decide), if_neg (show ¬ nI 7 = 3 by decide), if_neg (show ¬ nI 7 = 4 by decide), if_neg (show ¬ nI 7 = 5 by decide), if_neg (show ¬ nI 7 = 6 by decide), if_pos (show nI 7 = 7 from rfl)]
  rfl
/-- the item in which it does not fit any more -/
theorem w_ovr {Mx Mo : sm_M} {LR' : List Ty} {k' r' : Nat} {jc : Option sm_S} (hk : k' < 400) (h48 : Mx 1 48 = nI (k' + 1)) (h47 : Mx 1 47 = 0) (hd : jR_doNext [] Mx = some (0, [], Mo)) (hO : wOr Bm LM0 LR' Mo) (h49 : Mo 1 49 = nI r') (hr : r ≤ r' ∧ r' ≤ r + 9) (hc : cOv p B L LC N nV D jc) : wQ p nE B Bm L LM0 FR k0 Ex PB nV LC LR TE BD D N t v k r Mm jc (jR_writeAll_12 [] Mx) := by
  refine Or.inr ⟨hc, LR', Mo, r', ?_, hO, h49, hr.1, hr.2⟩
  rw [w_loop hk h48 h47 hd, w_stop hO.2.2.1]
theorem wI_9 {j : Nat} (hj : j < 40) : ∀ i, i ∈ [((9 : Nat), nI j, (0 : Int32), (0 : Int32), (0 : Int32))] → wI LC LR i := fun i hi => by
  rw [List.mem_singleton.mp hi]
  exact ⟨show (9 : Nat) ≤ 12 by decide, ⟨rfl, rfl, rfl⟩, Or.inr (Or.inr (Or.inr (Or.inr (Or.inr (Or.inl ⟨rfl, ⟨j, hj, rfl⟩⟩))))), fun _ => rfl, fun q => absurd q (show ¬ (9 : Nat) = 7 by decide)⟩
theorem wI_10 {j : Nat} (hj : j < 40) : ∀ i, i ∈ [((10 : Nat), (2 : Int32), nI j, (0 : Int32), (0 : Int32))] → wI LC LR i := fun i hi => by
  rw [List.mem_singleton.mp hi]
  exact ⟨show (10 : Nat) ≤ 12 by decide, ⟨rfl, rfl, rfl⟩, Or.inr (Or.inr (Or.inr (Or.inr (Or.inr (Or.inr (Or.inl ⟨rfl, rg2, ⟨j, hj, rfl⟩⟩)))))), fun _ => rfl, fun q => absurd q (show ¬ (10 : Nat) = 7 by decide)⟩
/-- the last item of a choice -/
theorem w_ch7 {nb nC8 nB8 cur8 nV8 nD8 : Nat} {PB8 : List Nat} {KC KR : List Ty} {W8 : Nat → Ty} {A8 : Nat → Option Ty} {TE8 : Nat → Ty} {BD8 : Nat → List Ty} {Mc8 Mm8 : sm_M} (hg : [p] ∈ gC) (hp : 40 ≤ p) (hL : L.length + FR.length ≤ 60) (hN : 400 ≤ N) (hS : wS p nE B Bm L LM0 FR k0 (nb :: Ex) (PB ++ PB8) nC8 nB8 cur8 nV8 nD8 (LC ++ KC) (LR ++ KR) W8 A8 TE8 BD8 Mc8 Mm8) (hx : ty_pr (LC ++ KC) x5 (some t)) (hu : ty_pr (LC ++ KC) u (some (TE v))) (hv : v < nV) (hk : k < 380) (hr : r < 380) (h48 : Mm8 1 48 = nI (k + 1)) (h36 : Mm8 36 k = nI 7) (h37 : Mm8 37 k = nI nb) (h49 : Mm8 1 49 = nI (r + 1)) (h39 : ty_pr (LR ++ KR) (Mm8 39 r) (some t)) (h51 : Mm8 1 51 = nI v) (hwk : wK k r Mm8 Mm) (hnv : nV ≤ nV8) (hfr : ∀ i, i < nV → TE8 i = TE i ∧ BD8 i = BD i ∧ Mm8 40 i = Mm 40 i) : wQ p nE B Bm L LM0 FR k0 Ex PB nV LC LR TE BD [d0, d1, d2, d3, p] N t v k r Mm (cH9 p d0 d1 d2 d3 (nI nb) x5 u Mc8) (jR_writeAll_12 [] Mm8) := by
  have hlen := hS.len hL
  have hnb : nb < 40 := by
    have h1 := (hS.2.2.2.2.2.1.1.2.1 nb (List.mem_cons_self ..)).1
    have := hS.1.2.1
    omega
  have hv12 : v < 1200 := by have := hS.1.2.2.2.2.1; have := ct4_le (o := Mm8 29) nC8; have := hS.1.1; omega
  have hit := r_it7 (show k < 400 by omega) h48 h36 h37
  have hS0 : wS p nE B Bm L LM0 FR k0 (nb :: Ex) (PB ++ PB8) nC8 nB8 cur8 nV8 nD8 (LC ++ KC) (LR ++ KR) W8 A8 TE8 BD8 Mc8 (sm_up Mm8 1 48 (nI k)) := w_it hS
  rcases w_puts (N := N) (D := [d0, d1, d2, d3, p]) hg hp (by omega) [(9, nI nb, 0, 0, 0)] _ W8 Mc8 _ hS0 (wI_9 hnb) with ⟨W9, Mc9, Mm9, a1, a2, a3, a4, a5, a6⟩ | ⟨Mc9, Mo, a1, a2, a3, a4, a5, a6⟩
  · rw [a2] at hit
    have m51 : Mm9 1 51 = nI v := by rw [a6 51 (by decide), up_as (by decide)]; exact h51
    have m49 : Mm9 1 49 = nI (r + 1) := by rw [a6 49 (by decide), up_as (by decide)]; exact h49
    have m39 : Mm9 39 = Mm8 39 := by rw [a5 39 (by decide), up_ne (by decide)]
    obtain ⟨-, ev2, -⟩ := a3.2.2.2.2.2.2.1 v (by omega)
    rw [(hfr v hv).1] at ev2
    obtain ⟨A11, Mc11, Mm11, g1, g2, g3, g4, g5, g6⟩ := w_opn (D := [d0, d1, d2, d3, p]) hg hp a3 hu hx m1n ev2 (show ty_pr (LR ++ KR) (Mm9 39 r) (some t) by rw [m39]; exact h39) m1n
    have hd : jR_doNext [] Mm8 = some (0, [], Mm11) := by
      rw [hit, a3.o47, if_pos rfl, m51, ck_nI hv12 (by decide), nI_clamp (by omega), m49, nI_pred, ck_nI (show r < 400 by omega) (by decide), nI_clamp (by omega)]
      unfold rOp
      rw [g2, bi_some, dq_self]
    have hc : cH9 p d0 d1 d2 d3 (nI nb) x5 u Mc8 = some (x5, [d0, d1, d2, d3, p], Mc11) := by
      unfold cH9
      rw [a1, ga_in hg, g1, bi_some, dq_self]
    have hq : ∀ q, 35 < q → Mm11 q = Mm8 q := fun q hq => by rw [g5 q hq, a5 q hq, up_ne (by omega)]
    refine Or.inl ⟨x5, _, nB8, nb, nV8, nD8, PB8, KC, KR, W9, A11, TE8, BD8, Mc11, Mm11, hc, w_loop (by omega) h48 hS.o47 hd, g3, hx, ⟨?_, ?_, ?_, by rw [hq 39 (by decide)]; exact h39⟩, wK.trans (Y := Mm8) ⟨fun j hj => ?_, fun j hj => ?_⟩ hwk, hnv, fun i hi => ⟨(hfr i hi).1, (hfr i hi).2.1, by rw [hq 40 (by decide)]; exact (hfr i hi).2.2⟩⟩
    · rw [g6 48 (by decide), a6 48 (by decide), up_at]
    · rw [g6 49 (by decide)]; exact m49
    · rw [g6 51 (by decide)]; exact m51
    · rw [hq 36 (by decide), hq 37 (by decide), hq 38 (by decide)]
      exact ⟨rfl, rfl, rfl⟩
    · rw [hq 39 (by decide)]
  · rw [a3, a4.2.2.1, if_neg (by decide)] at hit
    refine w_ovr (r' := r + 1) (show k < 400 by omega) h48 hS.o47 hit a4 (by rw [a6 49 (by decide) (by decide), up_as (by decide)]; exact h49) ⟨by omega, by omega⟩ (cOv.back (K := KC) ?_)
    unfold cH9
    rw [a1]
    exact cOv.opn hg hp (a2.less hnv) hu hx m1n (fun M2 hO2 => by rw [dq_self]; exact cOv.ret hO2 hx)
end
