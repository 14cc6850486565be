/-! compile: a body -/
def wBq (p nE : Nat) (B Bm : sm_M) (L LM0 FR : List Ty) (k0 : Nat) (PB : List Nat) (LC LR : List Ty) (D : sm_D) (r : Nat) (jc jr : Option sm_S) : Prop := (∃ (nC' nB' cur' nV' nD' : Nat) (PB2 : List Nat) (KC KR : List Ty) (W' : Nat → Ty) (A' : Nat → Option Ty) (TE' : Nat → Ty) (BD' : Nat → List Ty) (Mc' Mm' : sm_M), jc = some (0, D, Mc') ∧ jr = some (0, [], Mm') ∧ wS p nE B Bm L LM0 FR k0 [] (PB ++ PB2) nC' nB' cur' nV' nD' (LC ++ KC) (LR ++ KR) W' A' TE' BD' Mc' Mm' ∧ Mm' 1 49 = nI r) ∨ (cOv p B L LC 410 0 D jc ∧ ∃ (LR' : List Ty) (Mm' : sm_M), jr = some (0, [], Mm') ∧ wOr Bm LM0 LR' Mm')
section
variable {p nE d0 d1 d2 d3 : Nat} {B Bm : sm_M} {L LM0 FR : List Ty} {k0 : Nat} {Ex PB : List Nat} {nC nB cur nV nD N mV k r v w e jj b m m' n h kd s1 : Nat} {LC LR : List Ty} {W : Nat → Ty} {A : Nat → Option Ty} {TE : Nat → Ty} {BD : Nat → List Ty} {Mc Mm Mc' Mm' M : sm_M} {D : sm_D} {t ta tb : Ty}
theorem w_shift (hS : wS p nE B Bm L LM0 FR k0 Ex (b :: PB) nC nB cur nV nD LC LR W A TE BD Mc Mm) : wS p nE B Bm L LM0 FR (k0 + 1) (b :: Ex) PB nC nB cur nV nD LC LR W A TE BD Mc Mm := by
  obtain ⟨hn, ⟨t1, t2, t3, t4, t5, t6, t7, t8, t9, t10⟩, hc, hm, hR, ⟨⟨k1, k2, k3, k4, k5⟩, hcu⟩, hE, hB, fc, fr⟩ := hS
  have hpm : (b :: Ex ++ PB).Perm (Ex ++ b :: PB) := (List.perm_middle (a := b) (l₁ := Ex) (l₂ := PB)).symm
  refine ⟨hn, ⟨t1, t2, t3, t4, t5, by omega, t7, t8, t9, t10⟩, hc, hm, hR, ⟨⟨fun i hi => (k1 i hi).elim Or.inl (fun q => Or.inr (hpm.mem_iff.mpr q)), fun i hi => k2 i (hpm.mem_iff.mp hi), hpm.nodup_iff.mpr k3, ?_, fun i c hi => ?_⟩, hcu⟩, hE, hB, fc, fr⟩
  · rw [List.length_cons] at k4
    omega
  · have := k5 (i + 1) c (by rw [List.getElem?_cons_succ]; exact hi)
    rw [← this]
    congr 1
    omega
theorem w_body (hg : [p] ∈ gC) (hp : 40 ≤ p) (hH : vH nE L B Bm) (hL : L.length + FR.length ≤ 60) (hL30 : L.length ≤ 30) (hM0 : LM0.length + 300 + (k0 + 1) < 2990) (hL0 : L[0]? = some tyN) (h7 : ∀ (i : Nat) (t : Ty), L[i]? = some t → ty_pr LM0 (Bm 7 i) (some t)) (hS : wS p nE B Bm L LM0 FR k0 [] (b :: PB) nC nB cur nV nD LC LR W A TE BD Mc Mm) (h1r : 1 ≤ r) (hr : r ≤ 300) (h49 : Mm 1 49 = nI r) : wBq p nE B Bm L LM0 FR (k0 + 1) PB LC LR [d0, d1, d2, d3, p] r (jW_writeBody d0 d1 d2 d3 p (Mc 28 k0) (Mc 29 k0) (Mc 30 k0) Mc) (jR_writeBody (nI k0) [] Mm) := by
  have hl := hH.1
  obtain ⟨k1, k2, k3, k4, k5⟩ := hS.2.2.2.2.2.1.1
  rw [List.length_cons] at k4
  have nB4 := hS.1.2.1
  have n6 := hS.1.2.2.2.2.2
  have hb40 : b < 40 := by have := (k2 b (List.mem_cons_self ..)).1; omega
  obtain ⟨e, v, b', tt, m, ta, tb, he, hv, hb', c28, m44, c29, m45, c30, m46, h10, h11, htt, hT⟩ := hS.2.2.2.2.2.2.2.1 k0 (by omega)
  have c30' : Mc 30 k0 = nI b := k5 0 b rfl
  have eb : b' = b := nI_inj (by omega) (by omega) (c30.symm.trans c30')
  subst eb
  have hlen0 := hS.len hL
  have hlR0 := hS.lenR (by omega)
  have ttL := (List.getElem?_eq_some_iff.mp htt).1
  obtain ⟨KL, hKL⟩ := hS.2.1.2.1
  obtain ⟨KR0, hKR0⟩ := hS.2.1.2.2.2.1
  have httC : LC[tt]? = some (tyF ta tb) := by rw [hKL, List.getElem?_append_left ttL]; exact htt
  have hFR : tyR tb ∈ FR := hS.2.1.2.2.2.2.2.2.1 ta tb (List.mem_of_getElem? httC)
  obtain ⟨q1, q2, q3, q4, q5⟩ := hH.2.1 e he
  obtain ⟨jj, hjj, ejj⟩ : ∃ jj, LM0[jj]? = some (tyF ta tb) ∧ Bm 7 tt = nI jj := by
    rcases h7 tt _ htt with ⟨q, -⟩ | ⟨j, u, z, hj, ej⟩
    · cases q
    · rw [← Option.some.inj z] at hj
      exact ⟨j, hj, ej⟩
  have jjL := (List.getElem?_eq_some_iff.mp hjj).1
  have hjjR : LR[jj]? = some (tyF ta tb) := by rw [hKR0, List.getElem?_append_left jjL]; exact hjj
  obtain ⟨-, -, cx1, cx2, -⟩ := hS.2.1.1.row httC
  obtain ⟨-, -, rx1, rx2, -⟩ := hS.2.1.2.2.1.row hjjR
  have hv3 : v < 301 := by have := hS.1.2.2.2.2.1; have := ct4_le (o := Mm 29) nC; have := hS.1.1; omega
  have ke : ∀ {ρ : Type} {q : Option ρ}, sm_ck (nI e) 40 q = q := ck_nI (by omega) (by decide)
  have ce : (nI e).toNatClampNeg = e := nI_clamp (by omega)
  have kv : ∀ {ρ : Type} {q : Option ρ}, sm_ck (nI v) 301 q = q := ck_nI hv3 (by decide)
  have kv12 : ∀ {ρ : Type} {q : Option ρ}, sm_ck (nI v) 1200 q = q := ck_nI (by omega) (by decide)
  have cv : (nI v).toNatClampNeg = v := nI_clamp (by omega)
  have kk : ∀ {ρ : Type} {q : Option ρ}, sm_ck (nI k0) 64 q = q := ck_nI (by omega) (by decide)
  have ck0 : (nI k0).toNatClampNeg = k0 := nI_clamp (by omega)
  have kt : ∀ {ρ : Type} {q : Option ρ}, sm_ck (nI tt) 30 q = q := ck_nI (by omega) (by decide)
  have ct : (nI tt).toNatClampNeg = tt := nI_clamp (by omega)
  have kj : ∀ {ρ : Type} {q : Option ρ}, sm_ck (nI jj) 3000 q = q := ck_nI (by omega) (by decide)
  have cj : (nI jj).toNatClampNeg = jj := nI_clamp (by omega)
  have r11 : Mc 11 e = nI tt := by rw [hS.rowC hp (by decide) (by decide)]; exact h11
  have r13 : Mm 13 e = nI tt := by rw [hS.row (by decide) (by decide), q2]; exact h11
  have r7 : Mm 7 tt = nI jj := by rw [hS.row (by decide) (by decide)]; exact ejj
  have hS1 := w_shift hS
  obtain ⟨w, w', KC1, KR1, Mc1, Mm1, f1, f2, f3, f4, f5, f6, f7, f8, f9⟩ := w_find (D := [d0, d1, d2, d3, p]) (n := 3) (x := Mc 4 tt) (y := -1) (z := -1) (x' := Mm 4 jj) (y' := -1) (z' := -1) (o2 := none) (o3 := none) hp hS1 (by decide) (by decide) (Or.inr (Or.inr (Or.inr (Or.inl ⟨tb, rfl⟩)))) cx2 m1n m1n rx2 m1n m1n (Or.inr hFR) (by have := hS.2.1.2.2.2.2.2.1; omega) ⟨by omega, by omega⟩
  have f1' : jT_find 3 (Mc 4 tt) (-1) (-1) [d0, d1, d2, d3, p] Mc = some (w, [d0, d1, d2, d3, p], Mc1) := f1
  have f2' : jR_find 3 (Mm 4 jj) (-1) (-1) [] Mm = some (w', [], Mm1) := f2
  -- the block
  have m45' : Mm1 45 k0 = nI v := by rw [f7 45 (by decide)]; exact m45
  have hS2 : wS p nE B Bm L LM0 FR (k0 + 1) [b'] PB nC nB cur nV nD (LC ++ KC1) (LR ++ KR1) W A TE BD Mc1 (sm_up Mm1 1 51 (nI v)) := wS_w f5 (fun q a _ => up_ne a) (fun j _ _ a => up_as a)
  have hjj1 : (LR ++ KR1)[jj]? = some (tyF ta tb) := by rw [List.getElem?_append_left (List.getElem?_eq_some_iff.mp hjjR).1]; exact hjjR
  obtain ⟨-, -, ry1, -⟩ := hS2.2.1.2.2.1.row hjj1
  obtain ⟨ev1, ev2, -⟩ := hS2.2.2.2.2.2.2.1 v hv
  obtain ⟨A3, Mc3, Mm3, g1, g2, g3, g4, g5, g6⟩ := w_opn (D := [d0, d1, d2, d3, p]) hg hp hS2 ev1 cx1.grow f3 ev2 ry1 f4
  have hcls : jW_writeBody d0 d1 d2 d3 p (Mc 28 k0) (Mc 29 k0) (Mc 30 k0) Mc = cB0 p d0 d1 d2 d3 e (nI v) (nI b') (nI tt) w (Mc 3 tt) Mc3 := by
    rw [c28, c29, c30]
    unfold jW_writeBody
    simp only [ke, ce, kv, cv, r11]
    rw [j_firstOf hS.2.1.1 httC, bi_some, dq_self, j_secondOf hS.2.1.1 httC, bi_some, dq_self, f1', bi_some, dq_self, ga_in hg, g1, bi_some, dq_self]
    rfl
  have m46' : Mm3 46 k0 = nI b' := by rw [g5 46 (by decide), up_ne (by decide), f7 46 (by decide)]; exact m46
  have href : jR_writeBody (nI k0) [] Mm = rB0 e jj (nI b') w' Mm3 := by
    have u45 : sm_up Mm1 1 51 (nI v) 46 k0 = nI b' := by rw [up_ne (by decide), f7 46 (by decide)]; exact m46
    unfold jR_writeBody
    simp only [kk, ck0, m44, ke, ce, r13, kt, ct, r7, kj, cj, sm_wr]
    rw [f2', bi_some, dq_self, m45', up_at, kv12, cv, u45, g2, bi_some, dq_self, m46']
    rfl
  rw [hcls, href]
  have hlen1 := g3.len hL
  have hlR1 := g3.lenR hM0
  have z49 : Mm3 1 49 = nI r := by rw [g6 49 (by decide), up_as (by decide), f8 49 (by decide)]; exact h49
  have z51 : Mm3 1 51 = nI v := by rw [g6 51 (by decide), up_at]
  have hc1 := ct4_le (o := Mm3 29) nC
  have n1 := g3.1.1
  have n5 := g3.1.2.2.2.2.1
  have jA : ∀ i, i ∈ [((6 : Nat), (4 : Int32), nI b', (0 : Int32), (0 : Int32)), (4, 4, 4, 1, 1), (7, 4, 4, nI tt, nI jj), (4, 1, 1, 4, 4)] → wI (LC ++ KC1) (LR ++ KR1) i := fun i hi => by
    simp only [List.mem_cons, List.not_mem_nil, or_false] at hi
    rcases hi with rfl | rfl | rfl | rfl
    · exact wI_6 hb40
    · exact wI_4 rg4 rg4 rg1
    · exact wI_7 rg4 rg4 (w := tyF ta tb) (ty_prL g3.2.1.2.1 htt) (ty_prL g3.2.1.2.2.2.1 hjj) (Or.inl ⟨ta, tb, rfl⟩)
    · exact wI_4 rg1 rg1 rg4
  have ov : ∀ (jc jr : Option sm_S), cOv p B L (LC ++ KC1) 410 0 [d0, d1, d2, d3, p] jc → (∃ (LR' : List Ty) (Mm' : sm_M), jr = some (0, [], Mm') ∧ wOr Bm LM0 LR' Mm') → wBq p nE B Bm L LM0 FR (k0 + 1) PB LC LR [d0, d1, d2, d3, p] r jc jr := fun jc jr h1 h2 => Or.inr ⟨cOv.back (K := KC1) h1, h2⟩
  rcases w_puts (N := 410) (D := [d0, d1, d2, d3, p]) hg hp (by omega) [(6, 4, nI b', 0, 0), (4, 4, 4, 1, 1), (7, 4, 4, nI tt, nI jj), (4, 1, 1, 4, 4)] _ W Mc3 Mm3 g3 jA with ⟨W4, Mc4, Mm4, a1, a2, a3, a4, a5, a6⟩ | ⟨Mc4, Mo, a1, a2, a3, a4, a5, a6⟩
  · have hcA : cB0 p d0 d1 d2 d3 e (nI v) (nI b') (nI tt) w (Mc 3 tt) Mc3 = cB1 p d0 d1 d2 d3 e (nI v) (nI tt) w (Mc 3 tt) Mc4 := a1 _
    have hrA : rB0 e jj (nI b') w' Mm3 = rB1 e jj w' Mm4 := a2 _
    rw [hcA, hrA]
    have a4' : ct4 (Mm4 29) (nC + 4) = ct4 (Mm3 29) nC + 2 := a4
    have t5 : (LC ++ KC1).length + cU (LC ++ KC1) FR ≤ L.length + FR.length + ct4 (Mm3 29) nC := g3.2.1.2.2.2.2.1
    have t6 : (LR ++ KR1).length ≤ LM0.length + ct4 (Mm3 29) nC + (k0 + 1) := g3.2.1.2.2.2.2.2.1
    have y51 : Mm4 1 51 = nI v := by rw [a6 51 (by decide)]; exact z51
    obtain ⟨KC5, KR5, Mc5, Mm5, b1, b2, b3, b4, b5, b6, b7, b8, b9, b10, b11⟩ := w_ext (d0 := d0) (d1 := d1) (d2 := d2) (d3 := d3) (bn := 1) (u := tyF ta tb) (x := nI tt) (x' := nI jj) hp a3 hv y51 (ty_prL g3.2.1.2.1 htt) (ty_prL g3.2.1.2.2.2.1 hjj) (Or.inr rfl) (by show _ ≤ L.length + FR.length + ct4 (Mm4 29) (nC + 4); omega) (by show _ ≤ LM0.length + ct4 (Mm4 29) (nC + 4) + (k0 + 1); omega) (by show _ ≤ ct4 (Mm4 29) (nC + 4); omega) ⟨by omega, by omega⟩
    have b1' : jW_extend d0 d1 d2 d3 p (nI v) (nI tt) 1 Mc4 = some (nI nV, [d0, d1, d2, d3, p], Mc5) := b1
    have b2' : jR_grow (nI jj) 1 [] Mm4 = some (0, [], Mm5) := b2
    have hcB : cB1 p d0 d1 d2 d3 e (nI v) (nI tt) w (Mc 3 tt) Mc4 = cPuts p [d0, d1, d2, d3, p] (cB2 p d0 d1 d2 d3 e (nI nV) w (Mc 3 tt)) [(4, 1, 1, 3, 3)] Mc5 := by unfold cB1; rw [ga_in hg, b1', bi_some, dq_self]
    have hrB : rB1 e jj w' Mm4 = rPuts (rB2 e jj w') [(4, 1, 1, 3, 3)] Mm5 := by unfold rB1; rw [b2', bi_some, dq_self]
    rw [hcB, hrB]
    have y49 : Mm5 1 49 = nI r := by rw [b7 49 (by decide) (by decide) (by decide), a6 49 (by decide)]; exact z49
    have hlen5 := b3.len hL
    have hlR5 := b3.lenR hM0
    have u5 := b3.2.1.2.2.2.2.1
    have u6 := b3.2.1.2.2.2.2.2.1
    have u7 := b3.1.2.2.2.2.1
    have hjj5 : (LR ++ KR1 ++ KR5)[jj]? = some (tyF ta tb) := by rw [List.getElem?_append_left (List.getElem?_eq_some_iff.mp hjj1).1]; exact hjj1
    rcases w_puts (N := 410) (D := [d0, d1, d2, d3, p]) hg hp (by omega) [(4, 1, 1, 3, 3)] _ W4 Mc5 Mm5 b3 (fun i hi => by rw [List.mem_singleton.mp hi]; exact wI_4 rg1 rg1 rg3) with ⟨W6, Mc6, Mm6, c1, c2, c3, c4, c5, c6⟩ | ⟨Mc6, Mo, c1, c2, c3, c4, c5, c6⟩
    · rw [c1, c2]
      have c4' : ct4 (Mm6 29) (nC + 4 + 1) = ct4 (Mm5 29) (nC + 4) + 1 := c4
      have u5' : (LC ++ KC1 ++ KC5).length + cU (LC ++ KC1 ++ KC5) FR ≤ L.length + FR.length + ct4 (Mm5 29) (nC + 4) := u5
      have u6' : (LR ++ KR1 ++ KR5).length ≤ LM0.length + ct4 (Mm5 29) (nC + 4) + (k0 + 1) := u6
      have u7' : nV + 1 ≤ ct4 (Mm5 29) (nC + 4) + 1 := u7
      have x51 : Mm6 1 51 = nI nV := by rw [c6 51 (by decide)]; exact b4
      obtain ⟨KC7, KR7, Mc7, Mm7, i1, i2, i3, i4, i5, i6, i7, i8, i9, i10, i11⟩ := w_ext (d0 := d0) (d1 := d1) (d2 := d2) (d3 := d3) (bn := 0) (u := tyR tb) (x := w) (x' := w') hp c3 (Nat.lt_succ_self nV) x51 f3.grow f4.grow (Or.inl rfl) (by show _ ≤ L.length + FR.length + ct4 (Mm6 29) (nC + 4 + 1); omega) (by show _ ≤ LM0.length + ct4 (Mm6 29) (nC + 4 + 1) + (k0 + 1); omega) (by show _ ≤ ct4 (Mm6 29) (nC + 4 + 1); omega) ⟨by omega, by omega⟩
      have i1' : jW_extend d0 d1 d2 d3 p (nI nV) w 0 Mc6 = some (nI (nV + 1), [d0, d1, d2, d3, p], Mc7) := i1
      have i2' : jR_grow w' 0 [] Mm6 = some (0, [], Mm7) := i2
      have hcC : cB2 p d0 d1 d2 d3 e (nI nV) w (Mc 3 tt) Mc6 = cB3 p d0 d1 d2 d3 e (nI (nV + 1)) (Mc 3 tt) Mc7 := by unfold cB2; rw [ga_in hg, i1', bi_some, dq_self]
      have hrC : rB2 e jj w' Mm6 = rB3 e jj Mm7 := by unfold rB2; rw [i2', bi_some, dq_self]
      rw [hcC, hrC]
      have x49 : Mm7 1 49 = nI r := by rw [i7 49 (by decide) (by decide) (by decide), c6 49 (by decide)]; exact y49
      have hjj7 : (LR ++ KR1 ++ KR5 ++ KR7)[jj]? = some (tyF ta tb) := by rw [List.getElem?_append_left (List.getElem?_eq_some_iff.mp hjj5).1]; exact hjj5
      obtain ⟨-, -, rz1, -⟩ := i3.2.1.2.2.1.row hjj7
      have hSp := w_fin (r := r) (x := Mm7 3 jj) i3
      have p49 : rPu Mm7 r (Mm7 3 jj) 1 49 = nI (r + 1) := rPu_49
      have hlen7 := i3.len hL
      rcases w_push (d0 := d0) (d1 := d1) (d2 := d2) (d3 := d3) (bn := 1) (u := ta) (x := Mc 3 tt) hg hp hL hM0 hSp (Nat.lt_succ_self (nV + 1)) (by rw [rPu_1 (by decide)]; exact i4) (show r ≤ 390 by omega) p49 cx1.grow.grow.grow (by rw [rPu_39, upd_at]; exact rz1) (Or.inr rfl) with ⟨W8, KC8, KR8, Mc8a, Mc8, Mm8, j1, j2, j3, j4, j5, j6, j7, j8, j9, j10, j11, j12⟩ | ⟨K8, Mc8, Mo, j1, j2, j3, j4, j5⟩
      · have j3' : jW_extend d0 d1 d2 d3 p (nI (nV + 1)) (Mc 3 tt) 1 Mc8a = some (nI (nV + 2), [d0, d1, d2, d3, p], Mc8) := j3
        have j4' : jR_push 1 [] (rPu Mm7 r (Mm7 3 jj)) = some (0, [], Mm8) := j4
        obtain ⟨kd, h, o1, o2, o3, o4, o5, px, -⟩ := hH.2.2 e he
        have ek : kd = 6 := nI_inj (by omega) (by decide) (o2.symm.trans h10)
        subst ek
        obtain ⟨gx, gx1, gx2, gx3, gx4⟩ := w_ptn (n := 8) (f := B 12) hl (px (by decide)) he (by omega)
        have hcD : cB3 p d0 d1 d2 d3 e (nI (nV + 1)) (Mc 3 tt) Mc7 = cB4 p d0 d1 d2 d3 (nI (xN (B 12) e)) (nI (nV + 2)) Mc8 := by
          unfold cB3
          show sm_bi (sm_ga [p] gC (jC_put p 4 1 1 2 [d0, d1, d2, d3, p] Mc7)) _ = _
          rw [ga_in hg, j1, bi_some, dq_self]
          show sm_bi (sm_ga [p] gC (jW_extend d0 d1 d2 d3 p (nI (nV + 1)) (Mc 3 tt) 1 Mc8a)) _ = _
          rw [ga_in hg, j3', bi_some, dq_self, j2 12 (by decide) (by decide), gx2]
        have m14 : Mm8 14 e = nI (xN (B 12) e) := by rw [j5.row (by decide) (by decide), q3]; exact gx2
        have hrD : rB3 e jj Mm7 = sm_bi (jR_writeAll_12 [] (rLa (sm_up Mm8 1 48 0) 0 0 (nI (xN (B 12) e)) 0)) (fun _ E M' => sm_dq E [] (rB5 M')) := by
          unfold rB3 rB4 jR_writeAll
          simp only [sm_wr]
          rw [r_fin (by omega) x49, bi_some, dq_self, j4', bi_some, dq_self, m14, r_later (k := 0) (by decide) (by rw [up_at, nI_0]), bi_some, dq_self]
        rw [hcD, hrD]
        have hS9 : wS p nE B Bm L LM0 FR (k0 + 1) [] PB _ nB b' _ nD (LC ++ KC1 ++ KC5 ++ KC7 ++ KC8) (LR ++ KR1 ++ KR5 ++ KR7 ++ KR8) W8 A3 _ _ Mc8 (rLa (sm_up Mm8 1 48 0) 0 0 (nI (xN (B 12) e)) 0) := w_la (wS_w j5 (fun q a _ => up_ne a) (fun j a _ _ => up_as a))
        have hTb : pT (B 10) (B 11) (B 12) (B 13) (B 14) L m (ta :: tyF ta tb :: BD v) (xN (B 12) e) tb := hT
        have hq := w_all (d0 := d0) (d1 := d1) (d2 := d2) (d3 := d3) hg hp hH hL hL30 hM0 hL0 h7 8 (Nat.le_refl _) [] PB _ nB b' _ nD _ _ W8 A3 _ _ Mc8 _ (xN (B 12) e) (nV + 2) m 0 r tb hS9 gx1 ⟨gx, gx3, gx4⟩ (Nat.lt_succ_self _) (by
          show pT (B 10) (B 11) (B 12) (B 13) (B 14) L m (if nV + 1 + 1 = nV + 1 + 1 then (if (1 : Nat) = 1 then ta :: (if nV + 1 = nV + 1 then (if (0 : Nat) = 1 then tyR tb :: (if nV = nV then (if (1 : Nat) = 1 then tyF ta tb :: BD v else BD v) else BD nV) else (if nV = nV then (if (1 : Nat) = 1 then tyF ta tb :: BD v else BD v) else BD nV)) else _) else _) else _) (xN (B 12) e) tb
          rw [if_pos rfl, if_pos rfl, if_pos rfl, if_neg (by decide), if_pos rfl, if_pos rfl]
          exact hTb) (by omega) (by omega) rLa_48 rLa_at.1 rLa_at.2.1 (by rw [rLa_1 (by decide), up_as (by decide)]; exact j7) (by rw [rLa_1 (by decide), up_as (by decide)]; exact j6)
        unfold cB4
        rw [ga_in hg]
        rcases hq with ⟨x9, nC9, nB9, cur9, nV9, nD9, PB9, KC9, KR9, W9, A9, TE9, BD9, Mc9, Mm9, e1, e2, e3, e4, ⟨e5, e6, e7, e8⟩, e10, e11, e12⟩ | ⟨⟨x9, K, M', ox, e1, e2, e3⟩, LR', Mo, r', e4, e5, e6, e7, e8⟩
        · rw [e1, bi_some, dq_self, e2, w_end (by rw [e5, nI_0]), bi_some, dq_self]
          have hS10 : wS p nE B Bm L LM0 FR (k0 + 1) [] (PB ++ PB9) nC9 nB9 cur9 nV9 nD9 (LC ++ KC1 ++ KC5 ++ KC7 ++ KC8 ++ KC9) (LR ++ KR1 ++ KR5 ++ KR7 ++ KR8 ++ KR9) W9 A9 TE9 BD9 Mc9 (sm_up Mm9 1 49 (nI r)) := wS_w e3 (fun q a _ => up_ne a) (fun j _ a _ => up_as a)
          have hrE : rB5 Mm9 = rPuts (fun M => some (0, [], M)) [(5, 4, 1, 0, 0), (5, 4, 4, 1, 1), (8, 5, 1, 4, 4), (11, 5, 0, 0, 0)] (sm_up Mm9 1 49 (nI r)) := by
            unfold rB5
            rw [r_done (by omega) e6, bi_some, dq_self]
          rw [hrE]
          unfold cB5
          have hlen9 := e3.len hL
          rcases w_puts (N := 410) (D := [d0, d1, d2, d3, p]) hg hp (by omega) [(5, 4, 1, 0, 0), (5, 4, 4, 1, 1), (8, 5, 1, 4, 4), (11, 5, 0, 0, 0)] _ W9 Mc9 _ hS10 (fun i hi => by
            simp only [List.mem_cons, List.not_mem_nil, or_false] at hi
            rcases hi with rfl | rfl | rfl | rfl
            · exact ⟨show (5 : Nat) ≤ 12 by decide, ⟨rfl, rfl, rfl⟩, fLoad rg4 rg1 (Or.inl rfl), fun _ => rfl, fun q => absurd q (show ¬ (5 : Nat) = 7 by decide)⟩
            · exact ⟨show (5 : Nat) ≤ 12 by decide, ⟨rfl, rfl, rfl⟩, fLoad rg4 rg4 (Or.inr rfl), fun _ => rfl, fun q => absurd q (show ¬ (5 : Nat) = 7 by decide)⟩
            · exact wI_8
            · exact wI_11) with ⟨W10, Mc10, Mm10, l1, l2, l3, l4, l5, l6⟩ | ⟨Mc10, Mo, l1, l2, l3, l4, l5, l6⟩
          · rw [l1, l2]
            refine Or.inl ⟨nC9 + 4, nB9, cur9, nV9, nD9, PB9, KC1 ++ (KC5 ++ (KC7 ++ (KC8 ++ KC9))), KR1 ++ (KR5 ++ (KR7 ++ (KR8 ++ KR9))), W10, A9, TE9, BD9, Mc10, Mm10, rfl, rfl, ?_, by rw [l6 49 (by decide), up_at]⟩
            simp only [List.append_assoc] at l3 ⊢
            exact l3
          · rw [l1, l3]
            refine ov _ _ ?_ ⟨_, Mo, rfl, l4⟩
            refine cOv.back (K := KC5) (cOv.back (K := KC7) (cOv.back (K := KC8) (cOv.back (K := KC9) (cOv.ret (l2.less (Nat.zero_le _)) (ox := some tyN) (Or.inr ⟨0, tyN, rfl, l2.tn hL0, nI_0.symm⟩)))))
        · rw [e1, bi_some, dq_self, e4, bi_some, dq_self]
          obtain ⟨M2, s1, s2⟩ := r_B5O (r := r') e5 (by omega) (by omega) e6
          refine ov _ _ ?_ ⟨_, M2, s1, s2⟩
          refine cOv.mono (cOv.back (K := KC5) (cOv.back (K := KC7) (cOv.back (K := KC8) (cOv.back (K := K) (c_B5O hg hp hL0 (e2.less (Nat.zero_le _))))))) (show 400 + 8 ≤ 410 by decide)
      · have j3' : jR_push 1 [] (rPu Mm7 r (Mm7 3 jj)) = some (0, [], Mo) := j3
        obtain ⟨M2, s1, s2⟩ := r_B4O (e := e) (r := r) j4 h1r (by omega) j5
        refine ov _ _ ?_ ⟨_, M2, ?_, s2⟩
        · unfold cB3
          show cOv p B L (LC ++ KC1) 410 0 [d0, d1, d2, d3, p] (sm_bi (sm_ga [p] gC (jC_put p 4 1 1 2 [d0, d1, d2, d3, p] Mc7)) _)
          rw [ga_in hg, j1, bi_some, dq_self]
          show cOv p B L (LC ++ KC1) 410 0 [d0, d1, d2, d3, p] (sm_bi (sm_ga [p] gC (jW_extend d0 d1 d2 d3 p (nI (nV + 1)) (Mc 3 tt) 1 Mc8)) _)
          rw [ga_in hg, c_extO j2, bi_some, dq_self]
          exact cOv.mono (cOv.back (K := KC5) (cOv.back (K := KC7) (c_B4O hg hp hL0 (j2.less (Nat.zero_le _))))) (by decide)
        · unfold rB3
          rw [r_fin (by omega) x49, bi_some, dq_self, j3', bi_some, dq_self]
          exact s1
    · rw [c1, c3]
      have hO : rOv Bm LM0 (LR ++ KR1 ++ KR5) r (nV + 1) nV Mo := ⟨c4, by rw [c6 49 (by decide) (by decide)]; exact y49, by rw [c6 50 (by decide) (by decide)]; exact b3.2.2.2.1.2.2.2.2.1, by rw [c6 51 (by decide) (by decide)]; exact b4, _, by rw [c5 42 (by decide)]; exact (b3.2.2.2.2.2.2.1 nV (Nat.lt_succ_self _)).2.1⟩
      obtain ⟨LR', M2, s1, s2⟩ := r_B2O (e := e) hO (by omega) (by omega) (by omega) hjj5 f4.grow h1r (by omega)
      refine ov _ _ ?_ ⟨_, M2, s1, s2⟩
      exact cOv.back (K := KC5) (c_B2O hg hp hL0 (c2.less (Nat.zero_le _)))
  · have hcA : cB0 p d0 d1 d2 d3 e (nI v) (nI b') (nI tt) w (Mc 3 tt) Mc3 = cB1 p d0 d1 d2 d3 e (nI v) (nI tt) w (Mc 3 tt) Mc4 := a1 _
    have hrA : rB0 e jj (nI b') w' Mm3 = rB1 e jj w' Mo := a3 _
    rw [hcA, hrA]
    have hO : rOv Bm LM0 (LR ++ KR1) r nV v Mo := ⟨a4, by rw [a6 49 (by decide) (by decide)]; exact z49, by rw [a6 50 (by decide) (by decide)]; exact g3.2.2.2.1.2.2.2.2.1, by rw [a6 51 (by decide) (by decide)]; exact z51, _, by rw [a5 42 (by decide)]; exact (g3.2.2.2.2.2.2.1 v hv).2.1⟩
    obtain ⟨LR', M2, s1, s2⟩ := r_B1O (e := e) hO (by omega) (by omega) (by omega) hjj1 f4 h1r (by omega)
    exact ov _ _ (c_B1O hg hp hL0 (a2.less (Nat.zero_le _))) ⟨_, M2, s1, s2⟩
end
