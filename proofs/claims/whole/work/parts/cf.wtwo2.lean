/-! compile: kinds 2, 3, 4 and 8, both sides -/
section
variable {p nE d0 d1 d2 d3 : Nat} {B Bm : sm_M} {L LM0 FR : List Ty} {k0 : Nat} {Ex PB : List Nat} {nC nB cur nV nD N mV k r v e m m' n h kd s1 : Nat} {LC LR : List Ty} {W : Nat → Ty} {A : Nat → Option Ty} {TE : Nat → Ty} {BD : Nat → List Ty} {Mc Mm Mc' Mm' M : sm_M} {D : sm_D} {a b c x x' y y' z z' : Int32} {t ta tb : Ty} {o1 o2 o3 : Option Ty}
theorem wOc.rowC (hO : wOc p B L LC N mV M) (hp : 40 ≤ p) {q : Nat} (h1 : 8 < q) (h2 : q < 24) : M q = B q := hO.2.2.2.2.2 q h1 (Or.inl h2) (Or.inl (by omega))
theorem wS.lenR (hS : wS p nE B Bm L LM0 FR k0 Ex PB nC nB cur nV nD LC LR W A TE BD Mc Mm) (hM0 : LM0.length + 300 + k0 < 2990) : LR.length < 2990 := by
  have := hS.2.1.2.2.2.2.2.1
  have := ct4_le (o := Mm 29) nC
  have := hS.1.1
  omega
theorem wI_541 : wI LC LR (5, 4, 1, 1, 1) := ⟨show (5 : Nat) ≤ 12 by decide, ⟨rfl, rfl, rfl⟩, fLoad rg4 rg1 (Or.inr rfl), fun _ => rfl, fun q => absurd q (show ¬ (5 : Nat) = 7 by decide)⟩
theorem wI_511 : wI LC LR (5, 1, 1, 0, 0) := ⟨show (5 : Nat) ≤ 12 by decide, ⟨rfl, rfl, rfl⟩, fLoad rg1 rg1 (Or.inl rfl), fun _ => rfl, fun q => absurd q (show ¬ (5 : Nat) = 7 by decide)⟩
theorem wI.j {i : Nat × Int32 × Int32 × Int32 × Int32} (h : wI LC LR i) : wJ LC i := ⟨h.1, fun q => by obtain ⟨w, hw, -⟩ := h.2.2.2.2 q; exact ⟨w, hw⟩⟩
theorem f1234 {o : Nat} {a b c : Int32} (ho : 1 ≤ o ∧ o ≤ 4) (ha : reg5 a) (hb : reg5 b) (hc : reg5 c) : frm (nI o) a b c := by
  have ho' : o = 1 ∨ o = 2 ∨ o = 3 ∨ o = 4 := by omega
  refine Or.inr (Or.inl ⟨?_, ha, hb, hc⟩)
  rcases ho' with rfl | rfl | rfl | rfl
  · exact Or.inl rfl
  · exact Or.inr (Or.inl rfl)
  · exact Or.inr (Or.inr (Or.inl rfl))
  · exact Or.inr (Or.inr (Or.inr (Or.inl rfl)))
theorem wI_op {o : Nat} (ho : 1 ≤ o ∧ o ≤ 4) : wI LC LR (o, 2, 4, 2, 2) := by
  refine ⟨show o ≤ 12 by omega, ?_, f1234 ho rg2 rg4 rg2, fun _ => rfl, fun q => absurd q (show ¬ o = 7 by omega)⟩
  obtain ⟨h1, h2⟩ := ho
  have : o = 1 ∨ o = 2 ∨ o = 3 ∨ o = 4 := by omega
  rcases this with rfl | rfl | rfl | rfl <;> exact ⟨rfl, rfl, rfl⟩
theorem w_two (hg : [p] ∈ gC) (hp : 40 ≤ p) (hH : vH nE L B Bm) (hP : wP p nE d0 d1 d2 d3 B Bm L LM0 FR k0 n) (hL : L.length + FR.length ≤ 60) (hM0 : LM0.length + 300 + k0 < 2990) (hL0 : L[0]? = some tyN) (hn1 : 1 ≤ n) (hn8 : n ≤ 8) (hS : wS p nE B Bm L LM0 FR k0 Ex PB nC nB cur nV nD LC LR W A TE BD Mc Mm) (he : e < nE) (hkd : B 10 e = nI kd) (kk : kd = 2 ∨ kd = 3 ∨ kd = 4 ∨ kd = 8) (px : exP B e h (B 12 e)) (py : exP B e h (B 13 e)) (hh : h ≤ n + 1) (hv : v < nV) (hTx : pT (B 10) (B 11) (B 12) (B 13) (B 14) L m (BD v) (xN (B 12) e) ta) (hTy : pT (B 10) (B 11) (B 12) (B 13) (B 14) L m' (BD v) (xN (B 13) e) tb) (ht : t = if kd = 8 then tyP ta tb else tyN) (hk : k + 3 * (n + 1) ≤ 380) (hr : r + (n + 1) ≤ 380) (h48 : Mm 1 48 = nI (k + 1)) (h36 : Mm 36 k = nI 0) (h37 : Mm 37 k = nI e) (h49 : Mm 1 49 = nI r) (h51 : Mm 1 51 = nI v) : wQ p nE B Bm L LM0 FR k0 Ex PB nV LC LR TE BD [d0, d1, d2, d3, p] (400 + n + 1) t v k r Mm (jW_writeTwo (jW_write n) d0 d1 d2 d3 p (nI e) (nI v) Mc) (jR_writeAll_12 [] Mm) := by
  have hl := hH.1
  have ke : ∀ {ρ : Type} {q : Option ρ}, sm_ck (nI e) 40 q = q := ck_nI (by omega) (by decide)
  have ce : (nI e).toNatClampNeg = e := nI_clamp (by omega)
  have hop : 1 ≤ (if kd = 8 then 4 else kd - 1) ∧ (if kd = 8 then 4 else kd - 1) ≤ 4 := by
    rcases kk with rfl | rfl | rfl | rfl <;> decide
  have jI : ∀ {LC LR : List Ty}, ∀ i, i ∈ [((if kd = 8 then 4 else kd - 1 : Nat), (2 : Int32), (4 : Int32), (2 : Int32), (2 : Int32)), (5, 1, 1, 0, 0)] → wI LC LR i := by
    intro LC LR i hi
    rcases List.mem_cons.mp hi with rfl | hi
    · exact wI_op hop
    · rw [List.mem_singleton.mp hi]; exact wI_511
  have jI1 : ∀ {LC LR : List Ty}, ∀ i, i ∈ [((5 : Nat), (4 : Int32), (1 : Int32), (1 : Int32), (1 : Int32))] → wI LC LR i := by
    intro LC LR i hi
    rw [List.mem_singleton.mp hi]; exact wI_541
  -- the class where it does not fit
  have fo : ∀ (x1 x4 : Int32) (LC' : List Ty) (M8 : sm_M) (ox oz : Option Ty), wOc p B L LC' (400 + n) nV M8 → ty_pr LC' x1 ox → ty_pr LC' x4 oz → cOv p B L LC' (400 + n + 1) nV [d0, d1, d2, d3, p] (if kd = 8 then sm_bi (jT_find 1 x1 x4 (-1) [d0, d1, d2, d3, p] M8) (fun x E M' => sm_dq E [d0, d1, d2, d3, p] (some (x, [d0, d1, d2, d3, p], M'))) else some (0, [d0, d1, d2, d3, p], M8)) := by
    intro x1 x4 LC' M8 ox oz hO8 hx hz
    by_cases g : kd = 8
    · rw [if_pos g]
      obtain ⟨w, K, M', f1, f2, f3⟩ := c_findO (D := [d0, d1, d2, d3, p]) (n := 1) (z := -1) hp hO8 (by omega) (by decide) hx hz (Or.inl ⟨rfl, rfl⟩)
      have f1' : jT_find 1 x1 x4 (-1) [d0, d1, d2, d3, p] M8 = some (w, [d0, d1, d2, d3, p], M') := f1
      rw [f1', bi_some, dq_self]
      exact ⟨w, K, M', _, rfl, f3, f2⟩
    · rw [if_neg g]
      exact (cOv.ret hO8 (ox := some tyN) (Or.inr ⟨0, tyN, rfl, hO8.tn hL0, nI_0.symm⟩)).mono (by omega)
  unfold jW_writeTwo
  simp only [ke, ce]
  rw [hS.rowC hp (q := 12) (by decide) (by decide)]
  refine w_xy (C1 := fun x1 M1 => cSeg p d0 d1 d2 d3 n e (nI v) x1 (fun x4 M => tF p d0 d1 d2 d3 n e x1 x4 M) M1) (F := fun x1 _ x4 M => tF p d0 d1 d2 d3 n e x1 x4 M) (Q := fun _ y => y = -1) (s1 := if kd = 8 then 3 else 2) hg hp hH hP hL hM0 hL0 hn1 hn8 hS he hkd (by omega) ?_ px py hh hv hTx hTy hk hr h48 h36 h37 h49 h51 (fun _ _ _ h => h) (fun _ _ h => ⟨none, Or.inl ⟨rfl, h⟩⟩) (fun x1 LC' M1 _ _ => ⟨-1, rfl, rfl⟩) (fun x1 LC' M1 ox _ _ => ⟨-1, none, Or.inl ⟨rfl, rfl⟩, rfl⟩) ?_ ?_
  · rw [if_neg (show ¬ kd = 7 by omega)]
  · intro x1 y2 x4 LC' M ox oy oz hO hx hy hz
    obtain ⟨M5, h1, hO5⟩ := c_putsO (D := [d0, d1, d2, d3, p]) hg hp [(5, 4, 1, 1, 1)] M hO (fun i hi => (jI1 (LR := []) i hi).j)
    obtain ⟨M8, h2, hO8⟩ := c_putsO (D := [d0, d1, d2, d3, p]) hg hp [(if kd = 8 then 4 else kd - 1, 2, 4, 2, 2), (5, 1, 1, 0, 0)] M5 hO5 (fun i hi => (jI (LR := []) i hi).j)
    show cOv p B L LC' (400 + n + 1) nV [d0, d1, d2, d3, p] (tF p d0 d1 d2 d3 n e x1 x4 M)
    rw [tF_eq kk h1 (by rw [hO5.rowC hp (by decide) (by decide)]; exact hkd) h2 (by rw [hO8.rowC hp (by decide) (by decide)]; exact hkd)]
    exact fo x1 x4 LC' M8 ox oz hO8 hx hz
  · intro x1 y2 x4 v' nC2 nB2 cur2 nV2 nD2 PB2 KC KR W2 A2 TE2 BD2 Mc4 Mm4 hS4 hx1 _ hx4 hv' hte h40 h41 g48 g36 g37 g49 g39 g51 hwk hnv hfr
    show wQ p nE B Bm L LM0 FR k0 Ex PB nV LC LR TE BD [d0, d1, d2, d3, p] (400 + n + 1) t v k r Mm (tF p d0 d1 d2 d3 n e x1 x4 Mc4) (jR_writeAll_12 [] Mm4)
    have hv12 : v' < 1200 := by have := hS4.1.2.2.2.2.1; have := ct4_le (o := Mm4 29) nC2; have := hS4.1.1; omega
    have hvv : v < 1200 := by have := hS4.1.2.2.2.2.1; have := ct4_le (o := Mm4 29) nC2; have := hS4.1.1; omega
    have hit := r_it23 (s1 := if kd = 8 then 3 else 2) kk rfl (show k < 400 by omega) (show r < 400 by omega) hv12 g48 g36 g37 g49 g51
    have hS0 : wS p nE B Bm L LM0 FR k0 Ex (PB ++ PB2) nC2 nB2 cur2 nV2 nD2 (LC ++ KC) (LR ++ KR) W2 A2 TE2 BD2 Mc4 (sm_up (sm_up Mm4 1 48 (nI k)) 1 49 (nI r)) := wS_w (w_it hS4) (fun q a _ => up_ne a) (fun j _ a _ => up_as a)
    have hlen := hS4.len hL
    have hlenR := hS4.lenR hM0
    have z48 : sm_up (sm_up Mm4 1 48 (nI k)) 1 49 (nI r) 1 48 = nI k := by rw [up_as (by decide), up_at]
    have z49 : sm_up (sm_up Mm4 1 48 (nI k)) 1 49 (nI r) 1 49 = nI r := up_at
    have z51 : sm_up (sm_up Mm4 1 48 (nI k)) 1 49 (nI r) 1 51 = nI v' := by rw [up_as (by decide), up_as (by decide)]; exact g51
    have zo : ∀ q, q ≠ 1 → sm_up (sm_up Mm4 1 48 (nI k)) 1 49 (nI r) q = Mm4 q := fun q hq => by rw [up_ne hq, up_ne hq]
    have kv : ∀ {ρ : Type} {q : Option ρ}, sm_ck (nI v') 1200 q = q := ck_nI hv12 (by decide)
    have cv : (nI v').toNatClampNeg = v' := nI_clamp (by omega)
    -- where it does not fit
    have ov : ∀ (M8 Mo : sm_M), wOc p B L (LC ++ KC) (400 + n) nV M8 → wOr Bm LM0 (LR ++ KR) Mo → Mo 1 51 = nI v' → Mo 40 v' = nI v → Mo 1 49 = nI r → tF p d0 d1 d2 d3 n e x1 x4 Mc4 = (if kd = 8 then sm_bi (jT_find 1 x1 x4 (-1) [d0, d1, d2, d3, p] M8) (fun x E M' => sm_dq E [d0, d1, d2, d3, p] (some (x, [d0, d1, d2, d3, p], M'))) else some (0, [d0, d1, d2, d3, p], M8)) → jR_doNext [] Mm4 = sm_ck (Mo 1 51) 1200 (tR (sm_up Mo 1 51 (Mo 40 (Int32.toNatClampNeg (Mo 1 51)))) kd (Mm4 41 v') (Mm4 39 r)) → wQ p nE B Bm L LM0 FR k0 Ex PB nV LC LR TE BD [d0, d1, d2, d3, p] (400 + n + 1) t v k r Mm (tF p d0 d1 d2 d3 n e x1 x4 Mc4) (jR_writeAll_12 [] Mm4) := by
      intro M8 Mo hO8 hOr o51 o40 o49 hc hd
      rw [o51, kv, cv, o40] at hd
      have hO1 : wOr Bm LM0 (LR ++ KR) (sm_up Mo 1 51 (nI v)) := wOr_w hOr (fun q a _ => up_ne a) (fun j hj => up_as (by omega))
      have y49 : sm_up Mo 1 51 (nI v) 1 49 = nI r := by rw [up_as (by decide)]; exact o49
      obtain ⟨K3, Mo2, w, hO2, h2⟩ : ∃ (K3 : List Ty) (Mo2 : sm_M) (w : Int32), wOr Bm LM0 (LR ++ KR ++ K3) Mo2 ∧ jR_doNext [] Mm4 = some (0, [], rPu Mo2 r w) := by
        unfold tR at hd
        by_cases g : kd = 8
        · rw [if_pos g] at hd
          obtain ⟨w, K, M', f1, f2, f3, f4, f5, -⟩ := r_findO (n := 1) (z := -1) hO1 (show (LR ++ KR).length < 3000 by omega) (by decide) h41 g39 (Or.inl ⟨rfl, rfl⟩)
          have f1' : jR_find 1 (Mm4 41 v') (Mm4 39 r) (-1) [] (sm_up Mo 1 51 (nI v)) = some (w, [], M') := f1
          refine ⟨K, M', w, f3, ?_⟩
          rw [hd, f1', bi_some, dq_self, r_fin (r := r) (by omega) (by rw [f5 49 (by decide)]; exact y49), bi_some, dq_self]
        · rw [if_neg g] at hd
          refine ⟨[], _, 0, by rw [List.append_nil]; exact hO1, ?_⟩
          rw [hd, r_fin (r := r) (by omega) y49, bi_some, dq_self]
      refine Or.inr ⟨?_, LR ++ KR ++ K3, rPu Mo2 r w, r + 1, ?_, wOr_f hO2, rPu_49, by omega, by omega⟩
      · rw [hc]
        exact cOv.back (K := KC) (fo x1 x4 _ M8 (some ta) (some tb) hO8 hx1 hx4)
      · rw [w_loop (by omega) g48 hS4.o47 h2, w_stop (by rw [rPu_1 (by decide)]; exact hO2.2.2.1)]
    rcases w_puts (N := 400 + n) (D := [d0, d1, d2, d3, p]) hg hp (by omega) [(5, 4, 1, 1, 1)] nC2 W2 Mc4 _ hS0 (fun i hi => jI1 i hi) with ⟨W5, Mc5, Mm5, a1, a2, a3, a4, a5, a6⟩ | ⟨Mc5, Mo, a1, a2, a3, a4, a5, a6⟩
    · rcases w_puts (N := 400 + n) (D := [d0, d1, d2, d3, p]) hg hp (by omega) [(if kd = 8 then 4 else kd - 1, 2, 4, 2, 2), (5, 1, 1, 0, 0)] _ W5 Mc5 Mm5 a3 (fun i hi => jI i hi) with ⟨W8, Mc8, Mm8, b1, b2, b3, b4, b5, b6⟩ | ⟨Mc8, Mo, b1, b2, b3, b4, b5, b6⟩
      · have hc := tF_eq (n := n) (x1 := x1) (x4 := x4) kk a1 (by rw [a3.rowC hp (by decide) (by decide)]; exact hkd) b1 (by rw [b3.rowC hp (by decide) (by decide)]; exact hkd)
        rw [a2] at hit
        have hit2 := hit.trans (b2 _)
        have m51 : Mm8 1 51 = nI v' := by rw [b6 51 (by decide), a6 51 (by decide)]; exact z51
        have m49 : Mm8 1 49 = nI r := by rw [b6 49 (by decide), a6 49 (by decide)]; exact z49
        have m48 : Mm8 1 48 = nI k := by rw [b6 48 (by decide), a6 48 (by decide)]; exact z48
        have mo : ∀ q, 35 < q → Mm8 q = Mm4 q := fun q hq => by rw [b5 q hq, a5 q hq, zo q (by omega)]
        have m40 : Mm8 40 v' = nI v := by rw [mo 40 (by decide)]; exact h40
        simp only [m51, kv, cv, m40] at hit2
        have hS9 : wS p nE B Bm L LM0 FR k0 Ex (PB ++ PB2) (nC2 + 1 + 2) nB2 cur2 nV2 nD2 (LC ++ KC) (LR ++ KR) W8 A2 TE2 BD2 Mc8 (sm_up Mm8 1 51 (nI v)) := wS_w b3 (fun q a _ => up_ne a) (fun j _ _ a => up_as a)
        have y49 : sm_up Mm8 1 51 (nI v) 1 49 = nI r := by rw [up_as (by decide)]; exact m49
        -- the end, with what is found
        have fin : ∀ (xx yy : Int32) (KC3 KR3 : List Ty) (Mc9 Mm9 : sm_M), tF p d0 d1 d2 d3 n e x1 x4 Mc4 = some (xx, [d0, d1, d2, d3, p], Mc9) → jR_doNext [] Mm4 = some (0, [], rPu Mm9 r yy) → wS p nE B Bm L LM0 FR k0 Ex (PB ++ PB2) (nC2 + 1 + 2) nB2 cur2 nV2 nD2 (LC ++ KC ++ KC3) (LR ++ KR ++ KR3) W8 A2 TE2 BD2 Mc9 Mm9 → ty_pr (LC ++ KC ++ KC3) xx (some t) → ty_pr (LR ++ KR ++ KR3) yy (some t) → (∀ q, 6 < q → Mm9 q = sm_up Mm8 1 51 (nI v) q) → (∀ j, j ≠ 1 → Mm9 1 j = sm_up Mm8 1 51 (nI v) 1 j) → wQ p nE B Bm L LM0 FR k0 Ex PB nV LC LR TE BD [d0, d1, d2, d3, p] (400 + n + 1) t v k r Mm (tF p d0 d1 d2 d3 n e x1 x4 Mc4) (jR_writeAll_12 [] Mm4) := by
          intro xx yy KC3 KR3 Mc9 Mm9 u1 u2 u3 u4 u5 u6 u7
          rw [List.append_assoc LC, List.append_assoc LR] at u3
          rw [List.append_assoc LC] at u4
          rw [List.append_assoc LR] at u5
          have hq : ∀ q, 35 < q → q ≠ 39 → rPu Mm9 r yy q = Mm4 q := fun q hq h39 => by rw [rPu_o (by omega) h39, u6 q (by omega), up_ne (by omega), mo q hq]
          refine Or.inl ⟨xx, nC2 + 1 + 2, nB2, cur2, nV2, nD2, PB2, KC ++ KC3, KR ++ KR3, W8, A2, TE2, BD2, Mc9, rPu Mm9 r yy, u1, w_loop (by omega) g48 hS4.o47 u2, w_fin u3, u4, ⟨?_, rPu_49, ?_, by rw [rPu_39, upd_at]; exact u5⟩, wK.trans (Y := Mm4) ⟨fun j hj => ?_, fun j hj => ?_⟩ hwk, hnv, fun i hi => ⟨(hfr i hi).1, (hfr i hi).2.1, by rw [hq 40 (by decide) (by decide)]; exact (hfr i hi).2.2⟩⟩
          · rw [rPu_1 (by decide), u7 48 (by decide), up_as (by decide)]; exact m48
          · rw [rPu_1 (by decide), u7 51 (by decide), up_at]
          · rw [hq 36 (by decide) (by decide), hq 37 (by decide) (by decide), hq 38 (by decide) (by decide)]
            exact ⟨rfl, rfl, rfl⟩
          · rw [rPu_39, upd_ne (by omega), u6 39 (by decide), up_ne (by decide), mo 39 (by decide)]
        unfold tR at hit2
        by_cases g : kd = 8
        · rw [if_pos g] at hit2 hc ht
          subst ht
          have hc4 : ct4 (sm_up Mm8 1 51 (nI v) 29) (nC2 + 1 + 2) = ct4 (Mm8 29) (nC2 + 1 + 2) := by rw [up_ne (by decide)]
          have k4 : cI4 [((if kd = 8 then 4 else kd - 1 : Nat), (2 : Int32), (4 : Int32), (2 : Int32), (2 : Int32)), (5, 1, 1, 0, 0)] = 1 := by rw [if_pos g]; rfl
          have b4' : ct4 (Mm8 29) (nC2 + 1 + 2) = ct4 (Mm5 29) (nC2 + 1) + 1 := b4.trans (congrArg (fun q => ct4 (Mm5 29) (nC2 + 1) + q) k4)
          have q5 := a3.2.1.2.2.2.2.1
          have q6 := a3.2.1.2.2.2.2.2.1
          obtain ⟨w, w', KC3, KR3, Mc9, Mm9, f1, f2, f3, f4, f5, f6, f7, f8, f9⟩ := w_find (D := [d0, d1, d2, d3, p]) (n := 1) (x := x1) (y := x4) (z := -1) (x' := Mm4 41 v') (y' := Mm4 39 r) (z' := -1) (o3 := none) hp hS9 (by decide) (by decide) (Or.inr (Or.inl ⟨ta, tb, rfl⟩)) hx1 hx4 (Or.inl ⟨rfl, rfl⟩) h41 g39 (Or.inl ⟨rfl, rfl⟩) (Or.inl (by rw [hc4, b4']; exact Nat.succ_le_succ q5)) (by rw [hc4, b4']; have q6' : (LR ++ KR).length ≤ LM0.length + ct4 (Mm5 29) (nC2 + 1) + k0 := q6; omega) ⟨by omega, by omega⟩
          have f1' : jT_find 1 x1 x4 (-1) [d0, d1, d2, d3, p] Mc8 = some (w, [d0, d1, d2, d3, p], Mc9) := f1
          have f2' : jR_find 1 (Mm4 41 v') (Mm4 39 r) (-1) [] (sm_up Mm8 1 51 (nI v)) = some (w', [], Mm9) := f2
          rw [f1', bi_some, dq_self] at hc
          rw [f2', bi_some, dq_self, r_fin (r := r) (by omega) (by rw [f8 49 (by decide)]; exact y49), bi_some, dq_self] at hit2
          exact fin w w' KC3 KR3 Mc9 Mm9 hc hit2 f5 f3 f4 f7 f8
        · rw [if_neg g] at hit2 hc ht
          subst ht
          rw [r_fin (r := r) (by omega) y49, bi_some, dq_self] at hit2
          refine fin 0 0 [] [] Mc8 _ hc hit2 (by rw [List.append_nil, List.append_nil]; exact hS9) (by rw [List.append_nil]; exact Or.inr ⟨0, tyN, rfl, hS9.2.1.2.2.2.2.2.2.2.2.1, nI_0.symm⟩) (by rw [List.append_nil]; exact Or.inr ⟨0, tyN, rfl, hS9.2.1.2.2.2.2.2.2.2.2.2, nI_0.symm⟩) (fun _ _ => rfl) (fun _ _ => rfl)
      · have hc := tF_eq (n := n) (x1 := x1) (x4 := x4) kk a1 (by rw [a3.rowC hp (by decide) (by decide)]; exact hkd) b1 (by rw [b2.rowC hp (by decide) (by decide)]; exact hkd)
        rw [a2] at hit
        exact ov Mc8 Mo (b2.less hnv) b4 (by rw [b6 51 (by decide) (by decide), a6 51 (by decide)]; exact z51) (by rw [b5 40 (by decide), a5 40 (by decide), zo 40 (by decide)]; exact h40) (by rw [b6 49 (by decide) (by decide), a6 49 (by decide)]; exact z49) hc (hit.trans (b3 _))
    · obtain ⟨Mc8, b1, b2⟩ := c_putsO (D := [d0, d1, d2, d3, p]) hg hp [(if kd = 8 then 4 else kd - 1, 2, 4, 2, 2), (5, 1, 1, 0, 0)] Mc5 a2 (fun i hi => (jI (LR := []) i hi).j)
      have hc := tF_eq (n := n) (x1 := x1) (x4 := x4) kk a1 (by rw [a2.rowC hp (by decide) (by decide)]; exact hkd) b1 (by rw [b2.rowC hp (by decide) (by decide)]; exact hkd)
      rw [a3] at hit
      exact ov Mc8 Mo (b2.less hnv) a4 (by rw [a6 51 (by decide) (by decide)]; exact z51) (by rw [a5 40 (by decide), zo 40 (by decide)]; exact h40) (by rw [a6 49 (by decide) (by decide)]; exact z49) hc (hit.trans (r_putsO a4.2.2.1 _))
end
