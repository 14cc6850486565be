/-! compile: calls -/
section
variable {p nE d0 d1 d2 d3 : Nat} {B Bm : sm_M} {L LM0 FR : List Ty} {k0 : Nat} {Ex PB : List Nat} {nC nB cur nV nD N mV k r v e m m' n h kd s1 : Nat} {LC LR : List Ty} {W : Nat → Ty} {A : Nat → Option Ty} {TE : Nat → Ty} {BD : Nat → List Ty} {Mc Mm Mc' Mm' M : sm_M} {D : sm_D} {a b c x x' y y' z z' : Int32} {t ta tb : Ty} {o1 o2 o3 ox : Option Ty}
theorem wI_6 {j : Nat} (hj : j < 40) : wI LC LR (6, 4, nI j, 0, 0) := ⟨show (6 : Nat) ≤ 12 by decide, ⟨rfl, rfl, rfl⟩, Or.inr (Or.inr (Or.inr (Or.inl ⟨rfl, rg4, ⟨j, hj, rfl⟩⟩))), fun _ => rfl, fun q => absurd q (show ¬ (6 : Nat) = 7 by decide)⟩
theorem wI_551 : wI LC LR (5, 5, 1, 0, 0) := ⟨show (5 : Nat) ≤ 12 by decide, ⟨rfl, rfl, rfl⟩, fLoad rg5 rg1 (Or.inl rfl), fun _ => rfl, fun q => absurd q (show ¬ (5 : Nat) = 7 by decide)⟩
theorem wI_4 {a b c : Int32} (ha : reg5 a) (hb : reg5 b) (hc : reg5 c) : wI LC LR (4, a, b, c, c) := ⟨show (4 : Nat) ≤ 12 by decide, ⟨rfl, rfl, rfl⟩, f1234 (o := 4) ⟨by decide, by decide⟩ ha hb hc, fun _ => rfl, fun q => absurd q (show ¬ (4 : Nat) = 7 by decide)⟩
theorem wI_7 {a b c c' : Int32} {w : Ty} (ha : reg5 a) (hb : reg5 b) (h1 : ty_pr LC c (some w)) (h2 : ty_pr LR c' (some w)) (hw : wOk w) : wI LC LR (7, a, b, c, c') := ⟨show (7 : Nat) ≤ 12 by decide, ⟨rfl, rfl, rfl⟩, Or.inr (Or.inr (Or.inr (Or.inr (Or.inl ⟨rfl, ha, hb⟩)))), fun q => absurd rfl q, fun _ => ⟨w, h1, h2, hw⟩⟩
theorem wI_8 : wI LC LR (8, 5, 1, 4, 4) := ⟨show (8 : Nat) ≤ 12 by decide, ⟨rfl, rfl, rfl⟩, Or.inr (Or.inl ⟨Or.inr (Or.inr (Or.inr (Or.inr rfl))), rg5, rg1, rg4⟩), fun _ => rfl, fun q => absurd q (show ¬ (8 : Nat) = 7 by decide)⟩
theorem wI_11 : wI LC LR (11, 5, 0, 0, 0) := ⟨show (11 : Nat) ≤ 12 by decide, ⟨rfl, rfl, rfl⟩, Or.inr (Or.inr (Or.inr (Or.inr (Or.inr (Or.inr (Or.inr (Or.inl ⟨rfl, rg5⟩))))))), fun _ => rfl, fun q => absurd q (show ¬ (11 : Nat) = 7 by decide)⟩
/-- a block that was reserved is opened -/
theorem w_opn {nb : Nat} {oa ob oc : Option Ty} {a b c a' b' c' : Int32} (hg : [p] ∈ gC) (hp : 40 ≤ p) (hS : wS p nE B Bm L LM0 FR k0 (nb :: Ex) PB nC nB cur nV nD LC LR W A TE BD Mc Mm) (ha : ty_pr LC a oa) (hb : ty_pr LC b ob) (hc : ty_pr LC c oc) (ha' : ty_pr LR a' oa) (hb' : ty_pr LR b' ob) (hc' : ty_pr LR c' oc) :
    ∃ (A' : Nat → Option Ty) (Mc' Mm' : sm_M), jC_open p (nI nb) a b c D Mc = some (0, D, Mc') ∧ jR_beginBlock (nI nb) a' b' c' [] Mm = some (0, [], Mm') ∧ wS p nE B Bm L LM0 FR k0 Ex PB nC nB nb nV nD LC LR W A' TE BD Mc' Mm' ∧ Mm' 29 = Mm 29 ∧ (∀ q, 35 < q → Mm' q = Mm q) ∧ ∀ j, j ≠ 54 → Mm' 1 j = Mm 1 j := by
  obtain ⟨k1, k2, k3, k4, k5⟩ := hS.2.2.2.2.2.1.1
  rw [List.cons_append] at k3
  obtain ⟨n1, n2⟩ := List.nodup_cons.mp k3
  exact w_open hg hp hS (fun b => by rw [List.cons_append, List.mem_cons]) n1 n2 (Nat.le_refl _) k4 k5 ha hb hc ha' hb' hc'
theorem w_call (hg : [p] ∈ gC) (hp : 40 ≤ p) (hH : vH nE L B Bm) (hP : wP p nE d0 d1 d2 d3 B Bm L LM0 FR k0 n) (hL : L.length + FR.length ≤ 60) (hM0 : LM0.length + 300 + k0 < 2990) (hL0 : L[0]? = some tyN) (hn1 : 1 ≤ n) (hn8 : n ≤ 8) (hS : wS p nE B Bm L LM0 FR k0 Ex PB nC nB cur nV nD LC LR W A TE BD Mc Mm) (he : e < nE) (hkd : B 10 e = nI 7) (px : exP B e h (B 12 e)) (py : exP B e h (B 13 e)) (hh : h ≤ n + 1) (hv : v < nV) (hTx : pT (B 10) (B 11) (B 12) (B 13) (B 14) L m (BD v) (xN (B 12) e) (tyF ta t)) (hTy : pT (B 10) (B 11) (B 12) (B 13) (B 14) L m' (BD v) (xN (B 13) e) ta) (hk : k + 3 * (n + 1) ≤ 380) (hr : r + (n + 1) ≤ 380) (h48 : Mm 1 48 = nI (k + 1)) (h36 : Mm 36 k = nI 0) (h37 : Mm 37 k = nI e) (h49 : Mm 1 49 = nI r) (h51 : Mm 1 51 = nI v) : wQ p nE B Bm L LM0 FR k0 Ex PB nV LC LR TE BD [d0, d1, d2, d3, p] (400 + n + 1) t v k r Mm (jW_writeCall (jW_write n) d0 d1 d2 d3 p (nI e) (nI v) Mc) (jR_writeAll_12 [] Mm) := by
  have hl := hH.1
  have hv3 : v < 301 := by have := hS.1.2.2.2.2.1; have := ct4_le (o := Mm 29) nC; have := hS.1.1; omega
  have ke : ∀ {ρ : Type} {q : Option ρ}, sm_ck (nI e) 40 q = q := ck_nI (by omega) (by decide)
  have ce : (nI e).toNatClampNeg = e := nI_clamp (by omega)
  have kv3 : ∀ {ρ : Type} {q : Option ρ}, sm_ck (nI v) 301 q = q := ck_nI hv3 (by decide)
  have cv0 : (nI v).toNatClampNeg = v := nI_clamp (by omega)
  have jI1 : ∀ {LC LR : List Ty} {j : Nat}, j < 40 → ∀ i, i ∈ [((6 : Nat), (4 : Int32), nI j, (0 : Int32), (0 : Int32)), (5, 5, 1, 0, 0), (4, 4, 4, 5, 5)] → wI LC LR i := by
    intro LC LR j hj i hi
    simp only [List.mem_cons, List.not_mem_nil, or_false] at hi
    rcases hi with rfl | rfl | rfl
    · exact wI_6 hj
    · exact wI_551
    · exact wI_4 rg4 rg4 rg5
  have jI2 : ∀ {LC LR : List Ty} {x x' : Int32} {w : Ty}, ty_pr LC x (some w) → ty_pr LR x' (some w) → wOk w → ∀ i, i ∈ [((7 : Nat), (3 : Int32), (4 : Int32), x, x'), (5, 4, 1, 1, 1), (8, 5, 1, 4, 4), (11, 5, 0, 0, 0)] → wI LC LR i := by
    intro LC LR x x' w h1 h2 hw i hi
    simp only [List.mem_cons, List.not_mem_nil, or_false] at hi
    rcases hi with rfl | rfl | rfl | rfl
    · exact wI_7 rg3 rg4 h1 h2 hw
    · exact wI_541
    · exact wI_8
    · exact wI_11
  unfold jW_writeCall
  simp only [ke, ce, kv3, cv0]
  rw [hS.rowC hp (q := 12) (by decide) (by decide)]
  refine w_xy (C1 := fun x1 M1 => sm_bi (jT_secondOf x1 [d0, d1, d2, d3, p] M1) (fun x2 E2 M2 => sm_dq E2 [d0, d1, d2, d3, p] (cSeg p d0 d1 d2 d3 n e (nI v) x1 (fun _ M => cCa p d0 d1 d2 d3 v x2 M) M2))) (F := fun _ x2 _ M => cCa p d0 d1 d2 d3 v x2 M) (Q := fun LC y => ty_pr LC y (some t)) (s1 := 8) hg hp hH hP hL hM0 hL0 hn1 hn8 hS he hkd (by omega) rfl px py hh hv hTx hTy hk hr h48 h36 h37 h49 h51 (fun _ _ _ h => h.grow) (fun _ _ h => ⟨_, h⟩) ?_ ?_ ?_ ?_
  · intro x1 LC' M1 hT hx
    rcases hx with ⟨z, -⟩ | ⟨jx, ux, zx, hjx, rfl⟩
    · cases z
    rw [← Option.some.inj zx] at hjx
    obtain ⟨-, -, rp1, rp2, -⟩ := hT.row hjx
    exact ⟨M1 4 jx, rp2, by show sm_bi (jT_secondOf (nI jx) [d0, d1, d2, d3, p] M1) _ = _; rw [j_secondOf hT hjx, bi_some, dq_self]⟩
  · intro x1 LC' M1 ox hO hx
    obtain ⟨-, y, oy, h1, h2⟩ := c_anyP hO.1.1 hx
    exact ⟨y, oy, h2, by show sm_bi (jT_secondOf x1 [d0, d1, d2, d3, p] M1) _ = _; rw [h1, bi_some, dq_self]⟩
  · intro x1 y2 x4 LC' M ox oy oz hO _ hy _
    exact c_CaO hg hp hv (by omega) hO hy
  · intro x1 y2 x4 v' nC2 nB2 cur2 nV2 nD2 PB2 KC KR W2 A2 TE2 BD2 Mc4 Mm4 hS4 hx1 hy2 hx4 hv' hte h40 h41 g48 g36 g37 g49 g39 g51 hwk hnv hfr
    show wQ p nE B Bm L LM0 FR k0 Ex PB nV LC LR TE BD [d0, d1, d2, d3, p] (400 + n + 1) t v k r Mm (cCa p d0 d1 d2 d3 v y2 Mc4) (jR_writeAll_12 [] Mm4)
    have hv12 : v' < 1200 := by have := hS4.1.2.2.2.2.1; have := ct4_le (o := Mm4 29) nC2; have := hS4.1.1; omega
    have hlen := hS4.len hL
    have hlenR := hS4.lenR hM0
    rcases h41 with ⟨q, -⟩ | ⟨j, uj, zj, hj, ej⟩
    · cases q
    rw [← Option.some.inj zj] at hj
    have hj3 : j < 3000 := by have := (List.getElem?_eq_some_iff.mp hj).1; omega
    obtain ⟨-, -, -, hw2, -⟩ := hS4.2.1.2.2.1.row hj
    have hit := r_it8 (show k < 400 by omega) (show r < 400 by omega) hv12 g48 g36 g49 g51 ej hj3
    have hS0 : wS p nE B Bm L LM0 FR k0 Ex (PB ++ PB2) nC2 nB2 cur2 nV2 nD2 (LC ++ KC) (LR ++ KR) W2 A2 TE2 BD2 Mc4 (sm_up (sm_up Mm4 1 48 (nI k)) 1 49 (nI r)) := wS_w (w_it hS4) (fun q a _ => up_ne a) (fun j _ a _ => up_as a)
    have z48 : sm_up (sm_up Mm4 1 48 (nI k)) 1 49 (nI r) 1 48 = nI k := by rw [up_as (by decide), up_at]
    have z49 : sm_up (sm_up Mm4 1 48 (nI k)) 1 49 (nI r) 1 49 = nI r := up_at
    have z51 : sm_up (sm_up Mm4 1 48 (nI k)) 1 49 (nI r) 1 51 = nI v' := by rw [up_as (by decide), up_as (by decide)]; exact g51
    have zo : ∀ q, q ≠ 1 → sm_up (sm_up Mm4 1 48 (nI k)) 1 49 (nI r) q = Mm4 q := fun q hq => by rw [up_ne hq, up_ne hq]
    have hFR : tyR t ∈ FR := hS4.2.1.2.2.2.2.2.2.1 ta t (pr_mem hx1)
    -- where it does not fit
    have ov : ∀ (q : Option sm_S), jR_doNext [] Mm4 = sm_bi q (fun _ E M' => sm_dq E [] (some (0, [], M'))) → cOv p B L (LC ++ KC) (400 + n + 1) nV [d0, d1, d2, d3, p] (cCa p d0 d1 d2 d3 v y2 Mc4) → (∃ (LR' : List Ty) (M' : sm_M) (w : Int32), q = some (0, [], rPu M' r w) ∧ wOr Bm LM0 LR' M') → wQ p nE B Bm L LM0 FR k0 Ex PB nV LC LR TE BD [d0, d1, d2, d3, p] (400 + n + 1) t v k r Mm (cCa p d0 d1 d2 d3 v y2 Mc4) (jR_writeAll_12 [] Mm4) := by
      intro q hd hc hq
      obtain ⟨LR', Mo, w, rfl, hO⟩ := hq
      rw [bi_some, dq_self] at hd
      refine Or.inr ⟨cOv.back (K := KC) hc, LR', rPu Mo r w, r + 1, ?_, wOr_f hO, rPu_49, by omega, by omega⟩
      rw [w_loop (by omega) g48 hS4.o47 hd, w_stop (by rw [rPu_1 (by decide)]; exact hO.2.2.1)]
    rcases w_res (N := 400 + n) (D := [d0, d1, d2, d3, p]) hp hS0 (by omega) with ⟨Mc6, Mm6, b1, b2, b3, b4, b5, b6⟩ | ⟨xo, Mc6, b1, b2, b3, b4⟩
    · have hcls : cCa p d0 d1 d2 d3 v y2 Mc4 = cC0 p d0 d1 d2 d3 v y2 (nI nB2) Mc6 := by unfold cCa; rw [ga_in hg, b1, bi_some, dq_self]
      rw [b2, bi_some, dq_self] at hit
      rcases w_puts (N := 400 + n) (D := [d0, d1, d2, d3, p]) hg hp (by omega) [(6, 4, nI nB2, 0, 0), (5, 5, 1, 0, 0), (4, 4, 4, 5, 5)] _ W2 Mc6 Mm6 b4 (jI1 b3) with ⟨W7, Mc7, Mm7, c1, c2, c3, c4, c5, c6⟩ | ⟨Mc7, Mo, c1, c2, c3, c4, c5, c6⟩
      · have hcls1 : cC0 p d0 d1 d2 d3 v y2 (nI nB2) Mc6 = cC1 p d0 d1 d2 d3 v y2 (nI nB2) Mc7 := c1 _
        have hr1 : rC0 (nI nB2) (Mm4 4 j) Mm6 = rC1 (nI nB2) (Mm4 4 j) Mm7 := c2 _
        have c4' : ct4 (Mm7 29) (nC2 + 3) = ct4 (Mm6 29) nC2 + 1 := c4
        have q6 : (LR ++ KR).length ≤ LM0.length + ct4 (Mm6 29) nC2 + k0 := b4.2.1.2.2.2.2.2.1
        obtain ⟨w, w', KC3, KR3, Mc8, Mm8, f1, f2, f3, f4, f5, f6, f7, f8, f9⟩ := w_find (D := [d0, d1, d2, d3, p]) (n := 3) (x := y2) (y := -1) (z := -1) (x' := Mm4 4 j) (y' := -1) (z' := -1) (o2 := none) (o3 := none) hp c3 (by decide) (by decide) (Or.inr (Or.inr (Or.inr (Or.inl ⟨t, rfl⟩)))) hy2 m1n m1n hw2 m1n m1n (Or.inr hFR) (by show (LR ++ KR).length + 1 ≤ LM0.length + ct4 (Mm7 29) (nC2 + 3) + k0; omega) ⟨by omega, by omega⟩
        have f1' : jT_find 3 y2 (-1) (-1) [d0, d1, d2, d3, p] Mc7 = some (w, [d0, d1, d2, d3, p], Mc8) := f1
        have f2' : jR_find 3 (Mm4 4 j) (-1) (-1) [] Mm7 = some (w', [], Mm8) := f2
        have hcls2 : cC1 p d0 d1 d2 d3 v y2 (nI nB2) Mc7 = cC2 p d0 d1 d2 d3 v y2 (nI nB2) w Mc8 := by unfold cC1; rw [f1', bi_some, dq_self]
        have hr2 : rC1 (nI nB2) (Mm4 4 j) Mm7 = rC2 (nI nB2) (Mm4 4 j) w' Mm8 := by unfold rC1; rw [f2', bi_some, dq_self]
        rcases w_puts (N := 400 + n + 1) (D := [d0, d1, d2, d3, p]) hg hp (by omega) [(7, 3, 4, w, w'), (5, 4, 1, 1, 1), (8, 5, 1, 4, 4), (11, 5, 0, 0, 0)] _ W7 Mc8 Mm8 f5 (jI2 f3 f4 (Or.inr ⟨t, rfl⟩)) with ⟨W9, Mc9, Mm9, d1', d2', d3', d4', d5', d6'⟩ | ⟨Mc9, Mo, d1', d2', d3', d4', d5', d6'⟩
        · have hcls3 : cC2 p d0 d1 d2 d3 v y2 (nI nB2) w Mc8 = cC3 p d0 d1 d2 d3 v y2 (nI nB2) Mc9 := d1' _
          have hr3 : rC2 (nI nB2) (Mm4 4 j) w' Mm8 = rC2b (nI nB2) (Mm4 4 j) Mm9 := d2' _
          have mo : ∀ q, 35 < q → Mm9 q = Mm4 q := fun q hq => by rw [d5' q hq, f7 q (by omega), c5 q hq, b5 q (by omega), zo q (by omega)]
          have m1 : ∀ i, i ≠ 39 → i ≠ 1 → i ≠ 52 → Mm9 1 i = sm_up (sm_up Mm4 1 48 (nI k)) 1 49 (nI r) 1 i := fun i a b c => by rw [d6' i a, f8 i b, c6 i a, b6 i c]
          have m51 : Mm9 1 51 = nI v' := by rw [m1 51 (by decide) (by decide) (by decide)]; exact z51
          have m40 : Mm9 40 v' = nI v := by rw [mo 40 (by decide)]; exact h40
          have m47 : Mm9 1 47 = 0 := d3'.o47
          have hS10 : wS p nE B Bm L LM0 FR k0 (nB2 :: Ex) (PB ++ PB2) (nC2 + 3 + 4) (nB2 + 1) cur2 nV2 nD2 (LC ++ KC ++ KC3) (LR ++ KR ++ KR3) W9 A2 TE2 BD2 Mc9 (sm_up Mm9 1 51 (nI v)) := wS_w d3' (fun q a _ => up_ne a) (fun j _ _ a => up_as a)
          obtain ⟨ev1, ev2, -⟩ := hS10.2.2.2.2.2.2.1 v (by omega)
          obtain ⟨A11, Mc11, Mm11, g1, g2, g3, g4, g5, g6⟩ := w_opn (D := [d0, d1, d2, d3, p]) hg hp hS10 ev1 hy2.grow m1n ev2 hw2.grow m1n
          have hcls4 : cC3 p d0 d1 d2 d3 v y2 (nI nB2) Mc9 = some (y2, [d0, d1, d2, d3, p], Mc11) := by unfold cC3; rw [ga_in hg, g1, bi_some, dq_self]
          have n49 : Mm11 1 49 = nI r := by rw [g6 49 (by decide), up_as (by decide), m1 49 (by decide) (by decide) (by decide)]; exact z49
          have hr4 : rC2b (nI nB2) (Mm4 4 j) Mm9 = some (0, [], rPu Mm11 r (Mm4 4 j)) := by
            unfold rC2b rC3 jR_call_128
            rw [m51, ck_nI hv12 (by decide), nI_clamp (show v' < 2 ^ 31 by omega), m40, up_as (show (47 : Nat) ≠ 51 by decide), m47, if_pos rfl, up_at, ck_nI (show v < 1200 by omega) (by decide), cv0, g2, bi_some, dq_self, r_fin (r := r) (by omega) n49, bi_some, dq_self]
          rw [hr1, hr2, hr3, hr4, bi_some, dq_self] at hit
          rw [List.append_assoc LC, List.append_assoc LR] at g3
          have hq : ∀ q, 35 < q → q ≠ 39 → rPu Mm11 r (Mm4 4 j) q = Mm4 q := fun q hq h39 => by rw [rPu_o (by omega) h39, g5 q hq, up_ne (by omega), mo q hq]
          refine Or.inl ⟨y2, nC2 + 3 + 4, nB2 + 1, nB2, nV2, nD2, PB2, KC ++ KC3, KR ++ KR3, W9, A11, TE2, BD2, Mc11, rPu Mm11 r (Mm4 4 j), by rw [hcls, hcls1, hcls2, hcls3, hcls4], w_loop (by omega) g48 hS4.o47 hit, w_fin g3, by rw [← List.append_assoc]; exact hy2.grow, ⟨?_, rPu_49, ?_, by rw [rPu_39, upd_at, ← List.append_assoc]; exact hw2.grow⟩, wK.trans (Y := Mm4) ⟨fun j hj => ?_, fun j hj => ?_⟩ hwk, hnv, fun i hi => ⟨(hfr i hi).1, (hfr i hi).2.1, by rw [hq 40 (by decide) (by decide)]; exact (hfr i hi).2.2⟩⟩
          · rw [rPu_1 (by decide), g6 48 (by decide), up_as (by decide), m1 48 (by decide) (by decide) (by decide)]; exact z48
          · rw [rPu_1 (by decide), g6 51 (by decide), up_at]
          · rw [hq 36 (by decide) (by decide), hq 37 (by decide) (by decide), hq 38 (by decide) (by decide)]
            exact ⟨rfl, rfl, rfl⟩
          · rw [rPu_39, upd_ne (by omega), g5 39 (by decide), up_ne (by decide), mo 39 (by decide)]
        · have hcls3 : cC2 p d0 d1 d2 d3 v y2 (nI nB2) w Mc8 = cC3 p d0 d1 d2 d3 v y2 (nI nB2) Mc9 := d1' _
          have hr3 : rC2 (nI nB2) (Mm4 4 j) w' Mm8 = rC2b (nI nB2) (Mm4 4 j) Mo := d3' _
          rw [hr1, hr2, hr3] at hit
          have m1 : ∀ i, i ≠ 39 → i ≠ 47 → i ≠ 1 → i ≠ 52 → Mo 1 i = sm_up (sm_up Mm4 1 48 (nI k)) 1 49 (nI r) 1 i := fun i a a' b c => by rw [d6' i a a', f8 i b, c6 i a, b6 i c]
          refine ov _ hit ?_ ?_
          · rw [hcls, hcls1, hcls2, hcls3]
            exact cOv.back (K := KC3) (c_C3O hg hp hv (d2'.less hnv) hy2.grow)
          · obtain ⟨M', u1, u2⟩ := r_C2bO (x2 := nI nB2) (w2 := Mm4 4 j) d4' (show r < 400 by omega) (by rw [m1 49 (by decide) (by decide) (by decide) (by decide)]; exact z49) hv12 (by rw [m1 51 (by decide) (by decide) (by decide) (by decide)]; exact z51)
            exact ⟨_, M', _, u1, u2⟩
      · have hcls1 : cC0 p d0 d1 d2 d3 v y2 (nI nB2) Mc6 = cC1 p d0 d1 d2 d3 v y2 (nI nB2) Mc7 := c1 _
        have hr1 : rC0 (nI nB2) (Mm4 4 j) Mm6 = rC1 (nI nB2) (Mm4 4 j) Mo := c3 _
        rw [hr1] at hit
        refine ov _ hit ?_ ?_
        · rw [hcls, hcls1]
          exact c_C1O hg hp hv (by omega) (c2.less hnv) hy2
        · obtain ⟨K, M', u1, u2⟩ := r_C1O (x2 := nI nB2) (w2 := Mm4 4 j) c4 (show (LR ++ KR).length < 3000 by omega) (show r < 400 by omega) (by rw [c6 49 (by decide) (by decide), b6 49 (by decide)]; exact z49) hv12 (by rw [c6 51 (by decide) (by decide), b6 51 (by decide)]; exact z51) hw2
          exact ⟨_, M', _, u1, u2⟩
    · have hcls : cCa p d0 d1 d2 d3 v y2 Mc4 = cC0 p d0 d1 d2 d3 v y2 (-1) Mc6 := by unfold cCa; rw [ga_in hg, b1, bi_some, dq_self]
      rw [b3, bi_some, dq_self] at hit
      have hr1 : rC0 xo (Mm4 4 j) (sm_up (sm_up (sm_up Mm4 1 48 (nI k)) 1 49 (nI r)) 1 47 1) = rC1 xo (Mm4 4 j) (sm_up (sm_up (sm_up Mm4 1 48 (nI k)) 1 49 (nI r)) 1 47 1) := r_putsO up_at _
      rw [hr1] at hit
      refine ov _ hit ?_ ?_
      · rw [hcls]
        exact c_C0O hg hp hv (by omega) (b2.less hnv) hy2
      · obtain ⟨K, M', u1, u2⟩ := r_C1O (x2 := xo) (w2 := Mm4 4 j) b4 (show (LR ++ KR).length < 3000 by omega) (show r < 400 by omega) (by rw [up_as (by decide)]; exact z49) hv12 (by rw [up_as (by decide)]; exact z51) hw2
        exact ⟨_, M', _, u1, u2⟩
end
