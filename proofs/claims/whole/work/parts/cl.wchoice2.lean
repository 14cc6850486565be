/-! compile: choices -/
section
variable {p nE d0 d1 d2 d3 : Nat} {B Bm : sm_M} {L LM0 FR : List Ty} {k0 : Nat} {Ex PB : List Nat} {nC nB cur nV nD N mV k r v e m m' n h kd s1 : Nat} {LC LR : List Ty} {W : Nat → Ty} {A : Nat → Option Ty} {TE : Nat → Ty} {BD : Nat → List Ty} {Mc Mm Mc' Mm' M : sm_M} {D : sm_D} {a b c x x' y y' z z' x2 x3 x5 u vv : Int32} {t ta tb : Ty} {o1 o2 o3 ox ou : Option Ty}
theorem w_opn2 {nb n3 : Nat} {oa ob oc : Option Ty} {a b c a' b' c' : Int32} (hg : [p] ∈ gC) (hp : 40 ≤ p) (hS : wS p nE B Bm L LM0 FR k0 (n3 :: nb :: Ex) PB nC nB cur nV nD LC LR W A TE BD Mc Mm) (ha : ty_pr LC a oa) (hb : ty_pr LC b ob) (hc : ty_pr LC c oc) (ha' : ty_pr LR a' oa) (hb' : ty_pr LR b' ob) (hc' : ty_pr LR c' oc) :
    ∃ (A' : Nat → Option Ty) (Mc' Mm' : sm_M), jC_open p (nI nb) a b c D Mc = some (0, D, Mc') ∧ jR_beginBlock (nI nb) a' b' c' [] Mm = some (0, [], Mm') ∧ wS p nE B Bm L LM0 FR k0 (n3 :: Ex) PB nC nB nb nV nD LC LR W A' TE BD Mc' Mm' ∧ Mm' 29 = Mm 29 ∧ (∀ q, 35 < q → Mm' q = Mm q) ∧ ∀ j, j ≠ 54 → Mm' 1 j = Mm 1 j := by
  obtain ⟨k1, k2, k3, k4, k5⟩ := hS.2.2.2.2.2.1.1
  rw [List.cons_append, List.cons_append] at k3
  obtain ⟨n1, n2⟩ := List.nodup_cons.mp k3
  obtain ⟨n4, n5⟩ := List.nodup_cons.mp n2
  refine w_open hg hp hS (fun b => ?_) ?_ ?_ (Nat.le_refl _) k4 k5 ha hb hc ha' hb' hc'
  · rw [List.cons_append, List.cons_append, List.mem_cons, List.mem_cons, List.cons_append, List.mem_cons]
    constructor
    · rintro (q | q | q)
      · exact Or.inr (Or.inl q)
      · exact Or.inl q
      · exact Or.inr (Or.inr q)
    · rintro (q | q | q)
      · exact Or.inr (Or.inl q)
      · exact Or.inl q
      · exact Or.inr (Or.inr q)
  · rw [List.cons_append]
    intro q
    rcases List.mem_cons.mp q with q | q
    · exact n1 (by rw [q]; exact List.mem_cons_self ..)
    · exact n4 q
  · rw [List.cons_append, List.nodup_cons]
    exact ⟨fun q => n1 (List.mem_cons_of_mem _ q), n5⟩
theorem w_ch6 {nb2 nb3 nC5 nB5 cur5 nV5 nD5 : Nat} {PB5 : List Nat} {KC KR : List Ty} {W5 : Nat → Ty} {A5 : Nat → Option Ty} {TE5 : Nat → Ty} {BD5 : Nat → List Ty} {Mc5 Mm5 : sm_M} (hg : [p] ∈ gC) (hp : 40 ≤ p) (hH : vH nE L B Bm) (hP : wP p nE d0 d1 d2 d3 B Bm L LM0 FR k0 n) (hL : L.length + FR.length ≤ 60) (hn1 : 1 ≤ n) (hn8 : n ≤ 8) (hS : wS p nE B Bm L LM0 FR k0 (nb3 :: nb2 :: Ex) (PB ++ PB5) nC5 nB5 cur5 nV5 nD5 (LC ++ KC) (LR ++ KR) W5 A5 TE5 BD5 Mc5 Mm5) (he : e < nE) (pz : exP B e h (B 14 e)) (hh : h ≤ n + 1) (hTz : pT (B 10) (B 11) (B 12) (B 13) (B 14) L m (BD v) (xN (B 14) e) t) (hx : ty_pr (LC ++ KC) x5 (some t)) (hu : ty_pr (LC ++ KC) u (some (TE v))) (hv : v < nV) (hk : k + 3 * (n + 1) ≤ 380) (hr : r + (n + 1) ≤ 380) (h48 : Mm5 1 48 = nI (k + 2 + 1)) (h36 : Mm5 36 (k + 2) = nI 6) (h37 : Mm5 37 (k + 2) = nI nb2) (h38 : Mm5 38 (k + 2) = nI nb3) (i36 : Mm5 36 (k + 1) = nI 0) (i37 : Mm5 37 (k + 1) = nI (xN (B 14) e)) (j36 : Mm5 36 k = nI 7) (j37 : Mm5 37 k = nI nb3) (h49 : Mm5 1 49 = nI (r + 1)) (h51 : Mm5 1 51 = nI v) (hwk : wK k r Mm5 Mm) (hnv : nV ≤ nV5) (hfr : ∀ i, i < nV → TE5 i = TE i ∧ BD5 i = BD i ∧ Mm5 40 i = Mm 40 i) : wQ p nE B Bm L LM0 FR k0 Ex PB nV LC LR TE BD [d0, d1, d2, d3, p] (400 + (n + 1)) t v k r Mm (cH5 p d0 d1 d2 d3 n e (nI v) (nI nb2) (nI nb3) u x5 Mc5) (jR_writeAll_12 [] Mm5) := by
  have hlen := hS.len hL
  obtain ⟨gz, gz1, gz2, gz3, gz4⟩ := w_ptn (f := B 14) hH.1 pz he hh
  have hnb : nb3 < 40 := by
    have h1 := (hS.2.2.2.2.2.1.1.2.1 nb3 (List.mem_cons_self ..)).1
    have := hS.1.2.1
    omega
  have hv12 : v < 1200 := by have := hS.1.2.2.2.2.1; have := ct4_le (o := Mm5 29) nC5; have := hS.1.1; omega
  have hit := r_it6 (show k + 2 < 400 by omega) (show r < 400 by omega) h48 h36 h37 h38 h49
  have hS0 : wS p nE B Bm L LM0 FR k0 (nb3 :: nb2 :: Ex) (PB ++ PB5) nC5 nB5 cur5 nV5 nD5 (LC ++ KC) (LR ++ KR) W5 A5 TE5 BD5 Mc5 (sm_up (sm_up Mm5 1 48 (nI (k + 2))) 1 49 (nI r)) := wS_w (w_it hS) (fun q a _ => up_ne a) (fun j _ a _ => up_as a)
  rcases w_puts (N := 400 + n) (D := [d0, d1, d2, d3, p]) hg hp (by omega) [(9, nI nb3, 0, 0, 0)] _ W5 Mc5 _ hS0 (wI_9 hnb) with ⟨W6, Mc6, Mm6, a1, a2, a3, a4, a5, a6⟩ | ⟨Mc6, Mo, a1, a2, a3, a4, a5, a6⟩
  · rw [a2] at hit
    have m51 : Mm6 1 51 = nI v := by rw [a6 51 (by decide), up_as (by decide), up_as (by decide)]; exact h51
    obtain ⟨-, ev2, -⟩ := a3.2.2.2.2.2.2.1 v (by omega)
    rw [(hfr v hv).1] at ev2
    obtain ⟨A7, Mc7, Mm7, g1, g2, g3, g4, g5, g6⟩ := w_opn2 (D := [d0, d1, d2, d3, p]) hg hp a3 hu m1n m1n ev2 m1n m1n
    have hd : jR_doNext [] Mm5 = some (0, [], Mm7) := by
      rw [hit, a3.o47, if_pos rfl, m51, ck_nI hv12 (by decide), nI_clamp (by omega)]
      unfold rOp
      rw [g2, bi_some, dq_self]
    have hc : cH5 p d0 d1 d2 d3 n e (nI v) (nI nb2) (nI nb3) u x5 Mc5 = cH7 p d0 d1 d2 d3 n e (nI v) (nI nb3) x5 u Mc7 := by
      unfold cH5
      rw [a1]
      unfold cH6
      rw [ga_in hg, g1, bi_some, dq_self]
    have hq : ∀ q, 35 < q → Mm7 q = Mm5 q := fun q hq => by rw [g5 q hq, a5 q hq, up_ne (by omega), up_ne (by omega)]
    have hq1 : ∀ j, j ≠ 54 → j ≠ 39 → Mm7 1 j = sm_up (sm_up Mm5 1 48 (nI (k + 2))) 1 49 (nI r) 1 j := fun j a b => by rw [g6 j a, a6 j b]
    rw [hc, w_loop (by omega) h48 hS.o47 hd]
    unfold cH7
    rw [g3.rowC hp (q := 14) (by decide) (by decide), gz2, ga_in hg]
    have hp1 := hP (nb3 :: Ex) (PB ++ PB5) _ nB5 nb2 nV5 nD5 (LC ++ KC) (LR ++ KR) W6 A7 TE5 BD5 Mc7 Mm7 (xN (B 14) e) v m (k + 1) r t g3 gz1 ⟨gz, gz3, gz4⟩ (by omega) (by rw [(hfr v hv).2.1]; exact hTz) (by omega) (by omega) (by rw [hq1 48 (by decide) (by decide), up_as (by decide), up_at]) (by rw [hq 36 (by decide)]; exact i36) (by rw [hq 37 (by decide)]; exact i37) (by rw [hq1 49 (by decide) (by decide), up_at]) (by rw [hq1 51 (by decide) (by decide), up_as (by decide), up_as (by decide)]; exact h51)
    rcases hp1 with ⟨x8, nC8, nB8, cur8, nV8, nD8, PB8, KC8, KR8, W8, A8, TE8, BD8, Mc8, Mm8, e1, e2, e3, e4, ⟨e5, e6, e7, e8⟩, e10, e11, e12⟩ | ⟨⟨x8, K, M8, ox8, e1, e2, e3⟩, LR', Mo, r', e4, e5, e6, e7, e8⟩
    · rw [e1, bi_some, dq_self, e2]
      rw [List.append_assoc PB, List.append_assoc LC, List.append_assoc LR] at e3
      rw [List.append_assoc LR] at e8
      refine w_ch7 hg hp hL (by omega) e3 (by rw [← List.append_assoc]; exact hx.grow) (by rw [← List.append_assoc]; exact hu.grow) hv (by omega) (by omega) e5 (by rw [(e10.1 k (by omega)).1, hq 36 (by decide)]; exact j36) (by rw [(e10.1 k (by omega)).2.1, hq 37 (by decide)]; exact j37) e6 e8 e7 ((e10.less (by omega) (Nat.le_refl _)).trans (wK.trans (Y := Mm5) ⟨fun j hj => ?_, fun j hj => ?_⟩ hwk)) (by omega) (fun i hi => ?_)
      · rw [hq 36 (by decide), hq 37 (by decide), hq 38 (by decide)]
        exact ⟨rfl, rfl, rfl⟩
      · rw [hq 39 (by decide)]
      · obtain ⟨q1, q2, q3⟩ := e12 i (by omega)
        obtain ⟨s1, s2, s3⟩ := hfr i hi
        exact ⟨q1.trans s1, q2.trans s2, by rw [q3, hq 40 (by decide)]; exact s3⟩
    · rw [e1, bi_some, dq_self]
      exact Or.inr ⟨(cOv.back (K := KC) (cOv.back (K := K) (c_H9O hg hp (e2.less hnv) hx.grow hu.grow))).mono (by omega), LR', Mo, r', e4, e5, e6, e7, e8⟩
  · rw [a3, a4.2.2.1, if_neg (by decide)] at hit
    refine w_ovr (r' := r) (show k + 2 < 400 by omega) h48 hS.o47 hit a4 (by rw [a6 49 (by decide) (by decide), up_at]) ⟨by omega, by omega⟩ (cOv.mono (cOv.back (K := KC) ?_) (show 400 + n ≤ 400 + (n + 1) by omega))
    unfold cH5
    rw [a1]
    exact c_H6O hg hp hn1 (a2.less hnv) hx hu
theorem w_ch5 {nC1 nB1 cur1 nV1 nD1 : Nat} {PB1 : List Nat} {KC KR : List Ty} {W1 : Nat → Ty} {A1 : Nat → Option Ty} {TE1 : Nat → Ty} {BD1 : Nat → List Ty} {Mc1 Mm1 : sm_M} (hg : [p] ∈ gC) (hp : 40 ≤ p) (hH : vH nE L B Bm) (hP : wP p nE d0 d1 d2 d3 B Bm L LM0 FR k0 n) (hL : L.length + FR.length ≤ 60) (hL0 : L[0]? = some tyN) (hn1 : 1 ≤ n) (hn8 : n ≤ 8) (hS : wS p nE B Bm L LM0 FR k0 Ex (PB ++ PB1) nC1 nB1 cur1 nV1 nD1 (LC ++ KC) (LR ++ KR) W1 A1 TE1 BD1 Mc1 Mm1) (he : e < nE) (py : exP B e h (B 13 e)) (pz : exP B e h (B 14 e)) (hh : h ≤ n + 1) (hTy : pT (B 10) (B 11) (B 12) (B 13) (B 14) L m' (BD v) (xN (B 13) e) t) (hTz : pT (B 10) (B 11) (B 12) (B 13) (B 14) L m (BD v) (xN (B 14) e) t) (hu : ty_pr (LC ++ KC) u (some (TE v))) (hv : v < nV) (hk : k + 3 * (n + 1) ≤ 380) (hr : r + (n + 1) ≤ 380) (h48 : Mm1 1 48 = nI (k + 1)) (h36 : Mm1 36 k = nI 5) (h37 : Mm1 37 k = nI e) (h49 : Mm1 1 49 = nI (r + 1)) (h51 : Mm1 1 51 = nI v) (hwk : wK k r Mm1 Mm) (hnv : nV ≤ nV1) (hfr : ∀ i, i < nV → TE1 i = TE i ∧ BD1 i = BD i ∧ Mm1 40 i = Mm 40 i) : wQ p nE B Bm L LM0 FR k0 Ex PB nV LC LR TE BD [d0, d1, d2, d3, p] (400 + (n + 1)) t v k r Mm (cH1 p d0 d1 d2 d3 n e (nI v) u Mc1) (jR_writeAll_12 [] Mm1) := by
  have hlen := hS.len hL
  have hl := hH.1
  obtain ⟨q1, q2, q3, q4, q5⟩ := hH.2.1 e he
  obtain ⟨gy, gy1, gy2, gy3, gy4⟩ := w_ptn (f := B 13) hH.1 py he hh
  obtain ⟨gz, gz1, gz2, gz3, gz4⟩ := w_ptn (f := B 14) hH.1 pz he hh
  have hit := (r_item (show k < 400 by omega) h48 h36 h37).2.2.1 rfl
  have hS0 : wS p nE B Bm L LM0 FR k0 Ex (PB ++ PB1) nC1 nB1 cur1 nV1 nD1 (LC ++ KC) (LR ++ KR) W1 A1 TE1 BD1 Mc1 (sm_up (sm_up Mm1 1 48 (nI k)) 1 49 (nI r)) := wS_w (w_it hS) (fun q a _ => up_ne a) (fun j _ a _ => up_as a)
  have z49 : sm_up Mm1 1 48 (nI k) 1 49 = nI (r + 1) := by rw [up_as (by decide)]; exact h49
  -- where it does not fit
  have ov : ∀ {X2 X3 : Int32} {M2 M3 M4 : sm_M} {LR' : List Ty}, jR_name [] (sm_up (sm_up Mm1 1 48 (nI k)) 1 49 (nI r)) = some (X2, [], M2) → jR_name [] M2 = some (X3, [], M3) → (∀ G : sm_M → Option sm_S, rPuts G [(10, 2, X2, 0, 0)] M3 = G M4) → wOr Bm LM0 LR' M4 → M4 1 48 = nI k → M4 1 49 = nI r → cOv p B L (LC ++ KC) (400 + n) nV [d0, d1, d2, d3, p] (cH1 p d0 d1 d2 d3 n e (nI v) u Mc1) → wQ p nE B Bm L LM0 FR k0 Ex PB nV LC LR TE BD [d0, d1, d2, d3, p] (400 + (n + 1)) t v k r Mm (cH1 p d0 d1 d2 d3 n e (nI v) u Mc1) (jR_writeAll_12 [] Mm1) := by
    intro X2 X3 M2 M3 M4 LR' s2 s3 s10 sO s48 s49 hc
    have hch := r_chs (show e < 40 by omega) (show r < 400 by omega) z49 s2 s3 s10 s48 (show k + 3 < 400 by omega) rfl rfl
    rw [hch, bi_some, dq_self] at hit
    have wl : ∀ {M : sm_M} {k : Nat} {x y z : Int32}, wOr Bm LM0 LR' M → wOr Bm LM0 LR' (rLa M k x y z) := fun h => wOr_w h (fun q a b => rLa_o a (by omega)) (fun j hj => rLa_1 (by omega))
    refine w_ovr (r' := r) (show k < 400 by omega) h48 hS.o47 hit (wl (wl (wl (wl sO)))) ?_ ⟨by omega, by omega⟩ ((cOv.back (K := KC) hc).mono (by omega))
    rw [rLa_1 (by decide), rLa_1 (by decide), rLa_1 (by decide), rLa_1 (by decide)]
    exact s49
  have y48 : sm_up (sm_up Mm1 1 48 (nI k)) 1 49 (nI r) 1 48 = nI k := by rw [up_as (by decide), up_at]
  have y49 : sm_up (sm_up Mm1 1 48 (nI k)) 1 49 (nI r) 1 49 = nI r := up_at
  have y51 : sm_up (sm_up Mm1 1 48 (nI k)) 1 49 (nI r) 1 51 = nI v := by rw [up_as (by decide), up_as (by decide)]; exact h51
  have yo : ∀ q, q ≠ 1 → sm_up (sm_up Mm1 1 48 (nI k)) 1 49 (nI r) q = Mm1 q := fun q hq => by rw [up_ne hq, up_ne hq]
  rcases w_res (N := 400 + n) (D := [d0, d1, d2, d3, p]) hp hS0 (by omega) with ⟨Mc2, Mm2, b1, b2, b3, b4, b5, b6⟩ | ⟨xo, Mc2, b1, b2, b3, b4⟩
  · have hc1 : cH1 p d0 d1 d2 d3 n e (nI v) u Mc1 = cH2 p d0 d1 d2 d3 n e (nI v) (nI nB1) u Mc2 := by unfold cH1; rw [ga_in hg, b1, bi_some, dq_self]
    rcases w_res (N := 400 + n) (D := [d0, d1, d2, d3, p]) hp b4 (by omega) with ⟨Mc3, Mm3, c1, c2, c3, c4, c5, c6⟩ | ⟨xo, Mc3, c1, c2, c3, c4⟩
    · have hc2 : cH2 p d0 d1 d2 d3 n e (nI v) (nI nB1) u Mc2 = cH3 p d0 d1 d2 d3 n e (nI v) (nI nB1) (nI (nB1 + 1)) u Mc3 := by unfold cH2; rw [ga_in hg, c1, bi_some, dq_self]
      rcases w_puts (N := 400 + n) (D := [d0, d1, d2, d3, p]) hg hp (by omega) [(10, 2, nI nB1, 0, 0)] _ W1 Mc3 Mm3 c4 (wI_10 b3) with ⟨W4, Mc4, Mm4, f1, f2, f3, f4, f5, f6⟩ | ⟨Mc4, Mo, f1, f2, f3, f4, f5, f6⟩
      · have m1 : ∀ j, j ≠ 39 → j ≠ 52 → Mm4 1 j = sm_up (sm_up Mm1 1 48 (nI k)) 1 49 (nI r) 1 j := fun j a b => by rw [f6 j a, c6 j b, b6 j b]
        have mo : ∀ q, 35 < q → Mm4 q = Mm1 q := fun q hq => by rw [f5 q hq, c5 q (by omega), b5 q (by omega), yo q (by omega)]
        have hch := r_chs (y := nI (xN (B 13) e)) (z := nI (xN (B 14) e)) (show e < 40 by omega) (show r < 400 by omega) z49 b2 c2 f2 (by rw [m1 48 (by decide) (by decide)]; exact y48) (show k + 3 < 400 by omega) (by rw [f3.row (by decide) (by decide), q4]; exact gy2) (by rw [f3.row (by decide) (by decide), q5]; exact gz2)
        rw [hch, bi_some, dq_self] at hit
        have hc3 : cH3 p d0 d1 d2 d3 n e (nI v) (nI nB1) (nI (nB1 + 1)) u Mc3 = cH4 p d0 d1 d2 d3 n e (nI v) (nI nB1) (nI (nB1 + 1)) u Mc4 := f1 _
        rw [hc1, hc2, hc3, w_loop (by omega) h48 hS.o47 hit]
        unfold cH4
        rw [f3.rowC hp (q := 13) (by decide) (by decide), gy2, ga_in hg]
        have w1 : ∀ {x y z x' y' z' x'' y'' z'' x3 y3 z3 : Int32} {j : Nat}, j ≠ 48 → rLa (rLa (rLa (rLa Mm4 k x y z) (k + 1) x' y' z') (k + 2) x'' y'' z'') (k + 3) x3 y3 z3 1 j = Mm4 1 j := fun hj => by rw [rLa_1 hj, rLa_1 hj, rLa_1 hj, rLa_1 hj]
        have hS5 : wS p nE B Bm L LM0 FR k0 ((nB1 + 1) :: nB1 :: Ex) (PB ++ PB1) _ (nB1 + 1 + 1) cur1 nV1 nD1 (LC ++ KC) (LR ++ KR) W4 A1 TE1 BD1 Mc4 (rLa (rLa (rLa (rLa Mm4 k 7 (nI (nB1 + 1)) 0) (k + 1) 0 (nI (xN (B 14) e)) 0) (k + 2) 6 (nI nB1) (nI (nB1 + 1))) (k + 3) 0 (nI (xN (B 13) e)) 0) := w_la (w_la (w_la (w_la f3)))
        have hp1 := hP ((nB1 + 1) :: nB1 :: Ex) (PB ++ PB1) _ (nB1 + 1 + 1) cur1 nV1 nD1 (LC ++ KC) (LR ++ KR) W4 A1 TE1 BD1 Mc4 _ (xN (B 13) e) v m' (k + 3) r t hS5 gy1 ⟨gy, gy3, gy4⟩ (by omega) (by rw [(hfr v hv).2.1]; exact hTy) (by omega) (by omega) rLa_48 rLa_at.1 rLa_at.2.1 (by rw [w1 (by decide), m1 49 (by decide) (by decide)]; exact y49) (by rw [w1 (by decide), m1 51 (by decide) (by decide)]; exact y51)
        have lo : ∀ {x y z x' y' z' x'' y'' z'' x3 y3 z3 : Int32} {q : Nat}, 38 < q → rLa (rLa (rLa (rLa Mm4 k x y z) (k + 1) x' y' z') (k + 2) x'' y'' z'') (k + 3) x3 y3 z3 q = Mm1 q := fun hq => by rw [rLa_o (by omega) (by omega), rLa_o (by omega) (by omega), rLa_o (by omega) (by omega), rLa_o (by omega) (by omega), mo _ (by omega)]
        rcases hp1 with ⟨x5, nC5, nB5, cur5, nV5, nD5, PB5, KC5, KR5, W5, A5, TE5, BD5, Mc5, Mm5, e1, e2, e3, e4, ⟨e5, e6, e7, e8⟩, e10, e11, e12⟩ | ⟨⟨x5, K, M5, ox5, e1, e2, e3⟩, LR', Mo, r', e4, e5, e6, e7, e8⟩
        · rw [e1, bi_some, dq_self, e2]
          rw [List.append_assoc PB, List.append_assoc LC, List.append_assoc LR] at e3
          rw [List.append_assoc LC] at e4
          refine w_ch6 hg hp hH hP hL hn1 hn8 e3 he pz hh hTz e4 (by rw [← List.append_assoc]; exact hu.grow) hv hk hr e5 ?_ ?_ ?_ ?_ ?_ ?_ ?_ e6 e7 ((e10.less (by omega) (Nat.le_refl _)).trans (wK.trans (Y := Mm1) ⟨fun j hj => ?_, fun j hj => ?_⟩ hwk)) (by omega) (fun i hi => ?_)
          · rw [(e10.1 (k + 2) (by omega)).1, (rLa_as (show k + 2 ≠ k + 3 by omega)).1]; exact rLa_at.1
          · rw [(e10.1 (k + 2) (by omega)).2.1, (rLa_as (show k + 2 ≠ k + 3 by omega)).2.1]; exact rLa_at.2.1
          · rw [(e10.1 (k + 2) (by omega)).2.2, (rLa_as (show k + 2 ≠ k + 3 by omega)).2.2]; exact rLa_at.2.2
          · rw [(e10.1 (k + 1) (by omega)).1, (rLa_as (show k + 1 ≠ k + 3 by omega)).1, (rLa_as (show k + 1 ≠ k + 2 by omega)).1]; exact rLa_at.1
          · rw [(e10.1 (k + 1) (by omega)).2.1, (rLa_as (show k + 1 ≠ k + 3 by omega)).2.1, (rLa_as (show k + 1 ≠ k + 2 by omega)).2.1]; exact rLa_at.2.1
          · rw [(e10.1 k (by omega)).1, (rLa_as (show k ≠ k + 3 by omega)).1, (rLa_as (show k ≠ k + 2 by omega)).1, (rLa_as (show k ≠ k + 1 by omega)).1]; exact rLa_at.1
          · rw [(e10.1 k (by omega)).2.1, (rLa_as (show k ≠ k + 3 by omega)).2.1, (rLa_as (show k ≠ k + 2 by omega)).2.1, (rLa_as (show k ≠ k + 1 by omega)).2.1]; exact rLa_at.2.1
          · obtain ⟨s1, s2, s3⟩ := rLa_as (M := rLa (rLa (rLa Mm4 k 7 (nI (nB1 + 1)) 0) (k + 1) 0 (nI (xN (B 14) e)) 0) (k + 2) 6 (nI nB1) (nI (nB1 + 1))) (x := 0) (y := nI (xN (B 13) e)) (z := 0) (show j ≠ k + 3 by omega)
            obtain ⟨s4, s5, s6⟩ := rLa_as (M := rLa (rLa Mm4 k 7 (nI (nB1 + 1)) 0) (k + 1) 0 (nI (xN (B 14) e)) 0) (x := 6) (y := nI nB1) (z := nI (nB1 + 1)) (show j ≠ k + 2 by omega)
            obtain ⟨s7, s8, s9⟩ := rLa_as (M := rLa Mm4 k 7 (nI (nB1 + 1)) 0) (x := 0) (y := nI (xN (B 14) e)) (z := 0) (show j ≠ k + 1 by omega)
            obtain ⟨s10, s11, s12⟩ := rLa_as (M := Mm4) (x := 7) (y := nI (nB1 + 1)) (z := 0) (show j ≠ k by omega)
            rw [s1, s2, s3, s4, s5, s6, s7, s8, s9, s10, s11, s12, mo 36 (by decide), mo 37 (by decide), mo 38 (by decide)]
            exact ⟨rfl, rfl, rfl⟩
          · rw [lo (by decide)]
          · obtain ⟨s1, s2, s3⟩ := e12 i (by omega)
            obtain ⟨s4, s5, s6⟩ := hfr i hi
            exact ⟨s1.trans s4, s2.trans s5, by rw [s3, lo (by decide)]; exact s6⟩
        · rw [e1, bi_some, dq_self]
          exact Or.inr ⟨(cOv.back (K := KC) (cOv.back (K := K) (c_H5O hg hp hn1 (e2.less hnv) e3 hu.grow))).mono (by omega), LR', Mo, r', e4, e5, e6, e7, e8⟩
      · refine ov b2 c2 f3 f4 (by rw [f6 48 (by decide) (by decide), c6 48 (by decide), b6 48 (by decide)]; exact y48) (by rw [f6 49 (by decide) (by decide), c6 49 (by decide), b6 49 (by decide)]; exact y49) ?_
        have hc3 : cH3 p d0 d1 d2 d3 n e (nI v) (nI nB1) (nI (nB1 + 1)) u Mc3 = cH4 p d0 d1 d2 d3 n e (nI v) (nI nB1) (nI (nB1 + 1)) u Mc4 := f1 _
        rw [hc1, hc2, hc3]
        exact c_H4O hg hp hn1 hL0 (f2.less hnv) hu
    · refine ov b2 c3 (fun G => r_putsO up_at _) c4 (by rw [up_as (by decide), b6 48 (by decide)]; exact y48) (by rw [up_as (by decide), b6 49 (by decide)]; exact y49) ?_
      rw [hc1]
      unfold cH2
      rw [ga_in hg, c1, bi_some, dq_self]
      exact c_H3O hg hp hn1 hL0 (c2.less hnv) hu
  · refine ov b3 (nm_ov up_at) (fun G => r_putsO up_at _) b4 (by rw [up_as (by decide)]; exact y48) (by rw [up_as (by decide)]; exact y49) ?_
    unfold cH1
    rw [ga_in hg, b1, bi_some, dq_self]
    exact c_H2O hg hp hn1 hL0 (b2.less hnv) hu
theorem w_choice (hg : [p] ∈ gC) (hp : 40 ≤ p) (hH : vH nE L B Bm) (hP : wP p nE d0 d1 d2 d3 B Bm L LM0 FR k0 n) (hL : L.length + FR.length ≤ 60) (hL0 : L[0]? = some tyN) (hn1 : 1 ≤ n) (hn8 : n ≤ 8) (hS : wS p nE B Bm L LM0 FR k0 Ex PB nC nB cur nV nD LC LR W A TE BD Mc Mm) (he : e < nE) (hkd : B 10 e = nI 5) (px : exP B e h (B 12 e)) (py : exP B e h (B 13 e)) (pz : exP B e h (B 14 e)) (hh : h ≤ n + 1) (hv : v < nV) (hTx : pT (B 10) (B 11) (B 12) (B 13) (B 14) L m (BD v) (xN (B 12) e) ta) (hTy : pT (B 10) (B 11) (B 12) (B 13) (B 14) L m (BD v) (xN (B 13) e) t) (hTz : pT (B 10) (B 11) (B 12) (B 13) (B 14) L m (BD v) (xN (B 14) e) t) (hk : k + 3 * (n + 1) ≤ 380) (hr : r + (n + 1) ≤ 380) (h48 : Mm 1 48 = nI (k + 1)) (h36 : Mm 36 k = nI 0) (h37 : Mm 37 k = nI e) (h49 : Mm 1 49 = nI r) (h51 : Mm 1 51 = nI v) : wQ p nE B Bm L LM0 FR k0 Ex PB nV LC LR TE BD [d0, d1, d2, d3, p] (400 + (n + 1)) t v k r Mm (jW_writeChoice (jW_write n) d0 d1 d2 d3 p (nI e) (nI v) Mc) (jR_writeAll_12 [] Mm) := by
  have hl := hH.1
  obtain ⟨q1, q2, q3, q4, q5⟩ := hH.2.1 e he
  have hv3 : v < 301 := by have := hS.1.2.2.2.2.1; have := ct4_le (o := Mm 29) nC; have := hS.1.1; omega
  have ke : ∀ {ρ : Type} {q : Option ρ}, sm_ck (nI e) 40 q = q := ck_nI (by omega) (by decide)
  have ce : (nI e).toNatClampNeg = e := nI_clamp (by omega)
  have kv3 : ∀ {ρ : Type} {q : Option ρ}, sm_ck (nI v) 301 q = q := ck_nI hv3 (by decide)
  have cv0 : (nI v).toNatClampNeg = v := nI_clamp (by omega)
  obtain ⟨gx, gx1, gx2, gx3, gx4⟩ := w_ptn (f := B 12) hl px he hh
  have m12 : sm_up Mm 1 48 (nI k) 12 e = nI 5 := by rw [up_ne (by decide), hS.row (by decide) (by decide), q1]; exact hkd
  have m14 : rLa (sm_up Mm 1 48 (nI k)) k 5 (nI e) 0 14 e = nI (xN (B 12) e) := by rw [rLa_o (by decide) (by decide), up_ne (by decide), hS.row (by decide) (by decide), q3]; exact gx2
  have hd1 : jR_doNext [] Mm = some (0, [], rLa (rLa (sm_up Mm 1 48 (nI k)) k 5 (nI e) 0) (k + 1) 0 (nI (xN (B 12) e)) 0) := by
    rw [(r_item (by omega) h48 h36 h37).1 rfl, (r_wsel (by omega) m12).2.1 rfl]
    unfold jR_write_190
    simp only [ke, ce]
    rw [r_later (by omega) up_at, bi_some, dq_self, m14, r_later (by omega) rLa_48, bi_some, dq_self, bi_some, dq_self]
  rw [w_loop (by omega) h48 hS.o47 hd1]
  have hS1 : wS p nE B Bm L LM0 FR k0 Ex PB nC nB cur nV nD LC LR W A TE BD Mc (rLa (rLa (sm_up Mm 1 48 (nI k)) k 5 (nI e) 0) (k + 1) 0 (nI (xN (B 12) e)) 0) := w_la (w_la (w_it hS))
  have hq := hP Ex PB nC nB cur nV nD LC LR W A TE BD Mc _ (xN (B 12) e) v m (k + 1) r ta hS1 gx1 ⟨gx, gx3, gx4⟩ hv hTx (by omega) (by omega) rLa_48 rLa_at.1 rLa_at.2.1 (by rw [rLa_1 (by decide), rLa_1 (by decide), up_as (by decide)]; exact h49) (by rw [rLa_1 (by decide), rLa_1 (by decide), up_as (by decide)]; exact h51)
  have hu := (hS.2.2.2.2.2.2.1 v hv).1
  unfold jW_writeChoice
  simp only [ke, ce, kv3, cv0]
  rw [hS.rowC hp (q := 12) (by decide) (by decide), gx2]
  show wQ p nE B Bm L LM0 FR k0 Ex PB nV LC LR TE BD [d0, d1, d2, d3, p] (400 + (n + 1)) t v k r Mm (sm_bi (sm_ga [p] gC (jW_write n d0 d1 d2 d3 p (nI (xN (B 12) e)) (nI v) Mc)) (fun _ E M1 => sm_dq E [d0, d1, d2, d3, p] (cH1 p d0 d1 d2 d3 n e (nI v) (Mc 25 v) M1))) _
  rw [ga_in hg]
  have lo : ∀ {x y z x' y' z' : Int32} {q : Nat}, 38 < q → rLa (rLa (sm_up Mm 1 48 (nI k)) k x y z) (k + 1) x' y' z' q = Mm q := fun hq => by rw [rLa_o (by omega) (by omega), rLa_o (by omega) (by omega), up_ne (by omega)]
  rcases hq with ⟨x1, nC', nB', cur', nV', nD', PB2, KC, KR, W', A', TE', BD', Mc1, Mm1, e1, e2, e3, e4, ⟨e5, e6, e7, e8⟩, e10, e11, e12⟩ | ⟨⟨x1, K, M', ox, e1, e2, e3⟩, LR', Mo, r', e4, e5, e6, e7, e8⟩
  · rw [e1, bi_some, dq_self, e2]
    refine w_ch5 hg hp hH hP hL hL0 hn1 hn8 e3 he py pz hh hTy hTz hu.grow hv hk hr e5 ?_ ?_ e6 e7 ((e10.less (by omega) (Nat.le_refl _)).trans ⟨fun j hj => ?_, fun j hj => ?_⟩) e11 (fun i hi => ⟨(e12 i hi).1, (e12 i hi).2.1, by rw [(e12 i hi).2.2, lo (by decide)]⟩)
    · rw [(e10.1 k (by omega)).1, (rLa_as (show k ≠ k + 1 by omega)).1]; exact rLa_at.1
    · rw [(e10.1 k (by omega)).2.1, (rLa_as (show k ≠ k + 1 by omega)).2.1]; exact rLa_at.2.1
    · obtain ⟨s1, s2, s3⟩ := rLa_as (M := rLa (sm_up Mm 1 48 (nI k)) k 5 (nI e) 0) (x := 0) (y := nI (xN (B 12) e)) (z := 0) (show j ≠ k + 1 by omega)
      obtain ⟨s4, s5, s6⟩ := rLa_as (M := sm_up Mm 1 48 (nI k)) (x := 5) (y := nI e) (z := 0) (show j ≠ k by omega)
      rw [s1, s2, s3, s4, s5, s6, up_ne (by decide), up_ne (by decide), up_ne (by decide)]
      exact ⟨rfl, rfl, rfl⟩
    · rw [lo (by decide)]
  · rw [e1, bi_some, dq_self]
    exact Or.inr ⟨(cOv.back (K := K) (c_H1O hg hp hn1 hL0 e2 hu.grow)).mono (by omega), LR', Mo, r', e4, e5, e6, e7, e8⟩
end
