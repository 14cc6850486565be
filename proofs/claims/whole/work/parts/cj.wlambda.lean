/-! compile: functions -/
section
variable {p nE d0 d1 d2 d3 : Nat} {B Bm : sm_M} {L LM0 FR : List Ty} {k0 : Nat} {Ex PB : List Nat} {nC nB cur nV nD N mV k r v e m m' n h kd s1 tt : Nat} {LC LR : List Ty} {W : Nat → Ty} {A : Nat → Option Ty} {TE : Nat → Ty} {BD : Nat → List Ty} {Mc Mm Mc' Mm' M : sm_M} {D : sm_D} {a b c d x x' y y' z z' : Int32} {t ta tb : Ty} {o1 o2 o3 ox : Option Ty}
theorem c_58 {M1 M2 : sm_M} (he : e < 40) (h1 : ∀ F : sm_M → Option sm_S, cPuts p [d0, d1, d2, d3, p] F [(6, 4, x, 0, 0), (4, 4, 4, 1, 1)] M = F M1) (k1 : M1 11 e = B 11 e) (h2 : ∀ F : sm_M → Option sm_S, cPuts p [d0, d1, d2, d3, p] F [(7, 2, 4, B 11 e, y)] M1 = F M2) (k2 : M2 11 e = B 11 e) : jW_writeLambda_58 d0 d1 d2 d3 p (nI e) x M = some (B 11 e, [d0, d1, d2, d3, p], M2) := by
  have ke : ∀ {ρ : Type} {q : Option ρ}, sm_ck (nI e) 40 q = q := ck_nI (by omega) (by decide)
  have ce : (nI e).toNatClampNeg = e := nI_clamp (by omega)
  unfold jW_writeLambda_58
  simp only [ke, ce]
  refine (h1 (fun M2 => sm_bi (sm_ga [p] gC (jC_put p 7 2 4 (M2 11 e) [d0, d1, d2, d3, p] M2)) (fun x3 E3 M3 => sm_dq E3 [d0, d1, d2, d3, p] (some (M3 11 e, [d0, d1, d2, d3, p], M3))))).trans ?_
  show sm_bi (sm_ga [p] gC (jC_put p 7 2 4 (M1 11 e) [d0, d1, d2, d3, p] M1)) _ = _
  rw [k1]
  refine (h2 (fun M3 => some (M3 11 e, [d0, d1, d2, d3, p], M3))).trans ?_
  show some (M2 11 e, [d0, d1, d2, d3, p], M2) = _
  rw [k2]
theorem ty_prL (hK : ∃ K, LC = L ++ K) (h : L[tt]? = some t) : ty_pr LC (nI tt) (some t) := by
  obtain ⟨K, rfl⟩ := hK
  have h' : ty_pr L (nI tt) (some t) := Or.inr ⟨tt, t, rfl, h, rfl⟩
  exact h'.grow
theorem c_58O (hg : [p] ∈ gC) (hp : 40 ≤ p) (he : e < 40) (h11 : B 11 e = nI tt) (htt : L[tt]? = some t) (hO : wOc p B L LC N mV M) : cOv p B L LC N mV [d0, d1, d2, d3, p] (jW_writeLambda_58 d0 d1 d2 d3 p (nI e) x M) := by
  have hty : ty_pr LC (B 11 e) (some t) := by rw [h11]; exact ty_prL hO.2.1.1 htt
  obtain ⟨M1, a1, a2⟩ := c_putsO (D := [d0, d1, d2, d3, p]) hg hp [(6, 4, x, 0, 0), (4, 4, 4, 1, 1)] M hO (fun i hi => by
    simp only [List.mem_cons, List.not_mem_nil, or_false] at hi
    rcases hi with rfl | rfl
    · exact ⟨show (6 : Nat) ≤ 12 by decide, fun q => absurd q (show ¬ (6 : Nat) = 7 by decide)⟩
    · exact ⟨show (4 : Nat) ≤ 12 by decide, fun q => absurd q (show ¬ (4 : Nat) = 7 by decide)⟩)
  obtain ⟨M2, b1, b2⟩ := c_putsO (D := [d0, d1, d2, d3, p]) hg hp [(7, 2, 4, B 11 e, 0)] M1 a2 (fun i hi => by
    rw [List.mem_singleton.mp hi]
    exact ⟨show (7 : Nat) ≤ 12 by decide, fun _ => ⟨t, hty⟩⟩)
  rw [c_58 he a1 (by rw [a2.rowC hp (by decide) (by decide)]) b1 (by rw [b2.rowC hp (by decide) (by decide)])]
  exact cOv.ret b2 hty
theorem r_91 (he : e < 40) (ht : tt < 30) (h13 : M 13 e = nI tt) (hr : r < 400) (h49 : M 1 49 = nI r) : jR_lambda_91 (nI e) [] M = some (0, [], rPu M r (M 7 tt)) := by
  unfold jR_lambda_91
  rw [ck_nI he (by decide), nI_clamp (by omega), h13, ck_nI ht (by decide), nI_clamp (by omega), r_fin hr h49, bi_some, dq_self]
theorem r_lam {M1 M2 M3 : sm_M} (he : e < 40) (ht : tt < 30) (hn : nD < 64) (hnm : jR_name [] M = some (x, [], M1)) (h1 : ∀ G : sm_M → Option sm_S, rPuts G [(6, 4, x, 0, 0), (4, 4, 4, 1, 1)] M1 = G M2) (k13 : M2 13 e = nI tt) (h2 : ∀ G : sm_M → Option sm_S, rPuts G [(7, 2, 4, y, M2 7 tt)] M2 = G M3) (h53 : M3 1 53 = nI nD) : jR_lambda (nI e) [] M = if M3 1 47 = 0 then jR_lambda_91 (nI e) [] (recM M3 nD (nI e) (M3 1 51) x (nI (nD + 1))) else jR_lambda_91 (nI e) [] M3 := by
  have ke : ∀ {ρ : Type} {q : Option ρ}, sm_ck (nI e) 40 q = q := ck_nI (by omega) (by decide)
  have ce : (nI e).toNatClampNeg = e := nI_clamp (by omega)
  unfold jR_lambda
  rw [hnm, bi_some, dq_self]
  simp only [ke, ce]
  refine (h1 _).trans ?_
  show sm_ck (M2 13 e) 30 _ = _
  rw [k13, ck_nI ht (by decide), nI_clamp (by omega)]
  refine (h2 _).trans ?_
  show (if M3 1 47 = 0 then _ else _) = _
  by_cases g : M3 1 47 = 0
  case neg => rw [if_neg g, if_neg g]
  rw [if_pos g, if_pos g]
  have kn : ∀ {ρ : Type} {q : Option ρ}, sm_ck (nI nD) 64 q = q := ck_nI hn (by decide)
  have cn : (nI nD).toNatClampNeg = nD := nI_clamp (by omega)
  have u1 : ∀ {N : sm_M} {q j : Nat} {w : Int32}, 1 ≠ q → sm_up N q j w 1 = N 1 := fun h => up_ne h
  simp only [sm_wr, u1 (show (1 : Nat) ≠ 44 by decide), u1 (show (1 : Nat) ≠ 45 by decide), u1 (show (1 : Nat) ≠ 46 by decide), h53, kn, cn, nI_1]
  rfl
theorem w_lam (hg : [p] ∈ gC) (hp : 40 ≤ p) (hH : vH nE L B Bm) (hL : L.length + FR.length ≤ 60) (hL30 : L.length ≤ 30) (h7 : ∀ (i : Nat) (t : Ty), L[i]? = some t → ty_pr LM0 (Bm 7 i) (some t)) (hS : wS p nE B Bm L LM0 FR k0 Ex PB nC nB cur nV nD LC LR W A TE BD Mc Mm) (hN : 400 ≤ N) (he : e < nE) (hkd : B 10 e = nI 6) (h11 : B 11 e = nI tt) (htt : L[tt]? = some (tyF ta tb)) (hT : pT (B 10) (B 11) (B 12) (B 13) (B 14) L m (ta :: tyF ta tb :: BD v) (xN (B 12) e) tb) (hv : v < nV) (hk : k < 380) (hr : r < 380) (h48 : Mm 1 48 = nI (k + 1)) (h36 : Mm 36 k = nI 0) (h37 : Mm 37 k = nI e) (h49 : Mm 1 49 = nI r) (h51 : Mm 1 51 = nI v) : wQ p nE B Bm L LM0 FR k0 Ex PB nV LC LR TE BD [d0, d1, d2, d3, p] N (tyF ta tb) v k r Mm (jW_writeLambda d0 d1 d2 d3 p (nI e) (nI v) Mc) (jR_writeAll_12 [] Mm) := by
  have hl := hH.1
  obtain ⟨q1, q2, q3, q4, q5⟩ := hH.2.1 e he
  have he4 : e < 40 := by omega
  have htl : tt < 30 := by have := (List.getElem?_eq_some_iff.mp htt).1; omega
  have m12 : sm_up Mm 1 48 (nI k) 12 e = nI 6 := by rw [up_ne (by decide), hS.row (by decide) (by decide), q1]; exact hkd
  have b13 : Bm 13 e = nI tt := by rw [q2]; exact h11
  have hit := (r_item (by omega) h48 h36 h37).1 rfl
  rw [(r_wsel (by omega) m12).2.2.1 rfl] at hit
  have hS0 : wS p nE B Bm L LM0 FR k0 Ex PB nC nB cur nV nD LC LR W A TE BD Mc (sm_up Mm 1 48 (nI k)) := w_it hS
  have hlen := hS.len hL
  have n6 := hS.1.2.2.2.2.2
  have nB4 := hS.1.2.1
  have z49 : sm_up Mm 1 48 (nI k) 1 49 = nI r := by rw [up_as (by decide)]; exact h49
  have z51 : sm_up Mm 1 48 (nI k) 1 51 = nI v := by rw [up_as (by decide)]; exact h51
  have z53 : sm_up Mm 1 48 (nI k) 1 53 = nI nD := hS0.2.2.2.1.2.2.2.2.2
  have hlm : ∀ {LR' : List Ty}, (∃ K, LR' = LM0 ++ K) → ty_pr LR' (Bm 7 tt) (some (tyF ta tb)) := by
    rintro LR' ⟨K, rfl⟩
    exact (h7 tt _ htt).grow
  have hlc : ∀ {LC' : List Ty}, (∃ K, LC' = L ++ K) → ty_pr LC' (B 11 e) (some (tyF ta tb)) := fun hK => by rw [h11]; exact ty_prL hK htt
  have j1 : ∀ {LC LR : List Ty} {j : Nat}, j < 40 → ∀ i, i ∈ [((6 : Nat), (4 : Int32), nI j, (0 : Int32), (0 : Int32)), (4, 4, 4, 1, 1)] → wI LC LR i := by
    intro LC LR j hj i hi
    simp only [List.mem_cons, List.not_mem_nil, or_false] at hi
    rcases hi with rfl | rfl
    · exact wI_6 hj
    · exact wI_4 rg4 rg4 rg1
  -- where it does not fit
  have ov : ∀ (jc q : Option sm_S), jR_doNext [] Mm = sm_bi q (fun _ E M' => sm_dq E [] (some (0, [], M'))) → cOv p B L LC N nV [d0, d1, d2, d3, p] jc → (∃ (LR' : List Ty) (M' : sm_M) (w : Int32), q = some (0, [], rPu M' r w) ∧ wOr Bm LM0 LR' M') → wQ p nE B Bm L LM0 FR k0 Ex PB nV LC LR TE BD [d0, d1, d2, d3, p] N (tyF ta tb) v k r Mm jc (jR_writeAll_12 [] Mm) := by
    intro jc q hd hc hq
    obtain ⟨LR', Mo, w, rfl, hO⟩ := hq
    rw [bi_some, dq_self] at hd
    refine Or.inr ⟨hc, LR', rPu Mo r w, r + 1, ?_, wOr_f hO, rPu_49, by omega, by omega⟩
    rw [w_loop (by omega) h48 hS.o47 hd, w_stop (by rw [rPu_1 (by decide)]; exact hO.2.2.1)]
  unfold jW_writeLambda
  rcases w_res (N := N) (D := [d0, d1, d2, d3, p]) hp hS0 (by omega) with ⟨Mc6, Mm6, b1, b2, b3, b4, b5, b6⟩ | ⟨xo, Mc6, b1, b2, b3, b4⟩
  · have k15 : Mc6 p 15 = 0 := b4.2.2.1.2.2.2.1
    have k9 : Mc6 24 9 = nI nD := b4.2.2.1.2.2.2.2.2
    have k54 : Mm6 1 54 = nI cur := b4.2.2.2.1.2.2.1
    have k39 : Mm6 1 39 = nI nC := b4.2.2.2.1.1
    have hcur : cur < 41 := by have := b4.1.2.2.1; omega
    have kn : ∀ {ρ : Type} {q : Option ρ}, sm_ck (nI nD) 40 q = q := ck_nI (by omega) (by decide)
    have cn : (nI nD).toNatClampNeg = nD := nI_clamp (by omega)
    have u24 : ∀ {N : sm_M} {q j : Nat} {w : Int32}, 24 ≠ q → sm_up N q j w 24 = N 24 := fun h => up_ne h
    have hcls : ∀ {f : Int32 → sm_D → sm_M → Option sm_S}, sm_bi (sm_ga [p] gC (jC_reserve p [d0, d1, d2, d3, p] Mc)) f = f (nI nB) [d0, d1, d2, d3, p] Mc6 := fun {f} => by rw [ga_in hg, b1, bi_some]
    rw [hcls, dq_self, k15, if_pos rfl]
    simp only [sm_wr, u24 (show (24 : Nat) ≠ 28 by decide), u24 (show (24 : Nat) ≠ 29 by decide), u24 (show (24 : Nat) ≠ 30 by decide), k9, kn, cn, nI_1, dq_self]
    show wQ p nE B Bm L LM0 FR k0 Ex PB nV LC LR TE BD [d0, d1, d2, d3, p] N (tyF ta tb) v k r Mm (jW_writeLambda_58 d0 d1 d2 d3 p (nI e) (nI nB) (recC Mc6 nD (nI e) (nI v) (nI nB) (nI (nD + 1)))) (jR_writeAll_12 [] Mm)
    have hSg := w_rec (m := m) (tt := tt) (ta := ta) (tb := tb) hp b4 (by omega) he hv hkd h11 htt hT
    obtain ⟨Mm7, r1, r2, r3⟩ := r_putsR (i := nD) (a := nI e) (b := nI v) (c := nI nB) (d := nI (nD + 1)) hcur [(6, 4, nI nB, 0, 0), (4, 4, 4, 1, 1)] Mm6 (Or.inl b4.o47) ⟨nC, hS.1.1, k39⟩ k54
    have m7 : ∀ j, j ≠ 39 → j ≠ 47 → j ≠ 52 → Mm7 1 j = sm_up Mm 1 48 (nI k) 1 j := fun j a b c => by rw [r3 j a b, b6 j c]
    have inj7 : ∀ {M' : sm_M}, (∀ G : sm_M → Option sm_S, rPuts G [(6, 4, nI nB, 0, 0), (4, 4, 4, 1, 1)] (recM Mm6 nD (nI e) (nI v) (nI nB) (nI (nD + 1))) = G M') → M' = recM Mm7 nD (nI e) (nI v) (nI nB) (nI (nD + 1)) := fun {M'} h => by
      have := (h (fun M => some (0, [], M))).symm.trans (r2 _)
      injection this with this
      injection this with _ this
      injection this with _ this
    rcases w_puts (N := N) (D := [d0, d1, d2, d3, p]) hg hp (by omega) [(6, 4, nI nB, 0, 0), (4, 4, 4, 1, 1)] _ W _ _ hSg (j1 b3) with ⟨W7, Mc7, Mg7, c1, c2, c3, c4, c5, c6⟩ | ⟨Mc7, Mg7, c1, c2, c3, c4, c5, c6⟩
    · have eg := inj7 c2
      subst eg
      have row7 : ∀ q, 7 ≤ q → q ≤ 28 → Mm7 q = Bm q := fun q a b => by rw [← c3.row a b, recM_o (by omega) (by omega)]
      have k13 : Mm7 13 e = nI tt := by rw [row7 13 (by decide) (by decide)]; exact b13
      have e7 : Mm7 7 tt = Bm 7 tt := by rw [row7 7 (by decide) (by decide)]
      have k47 : Mm7 1 47 = 0 := by have := c3.o47; rwa [recM_1 (by decide)] at this
      obtain ⟨n7, hn7, k39'⟩ : ∃ n, n ≤ 300 ∧ Mm7 1 39 = nI n := ⟨_, c3.1.1, by have := c3.2.2.2.1.1; rwa [recM_1 (by decide)] at this⟩
      obtain ⟨Mm8, s1', s2', s3'⟩ := r_putsR (i := nD) (a := nI e) (b := nI v) (c := nI nB) (d := nI (nD + 1)) hcur [(7, 2, 4, B 11 e, Mm7 7 tt)] Mm7 (Or.inl k47) ⟨n7, hn7, k39'⟩ (by rw [m7 54 (by decide) (by decide) (by decide), ← b6 54 (by decide)]; exact k54)
      have inj8 : ∀ {M' : sm_M}, (∀ G : sm_M → Option sm_S, rPuts G [(7, 2, 4, B 11 e, Mm7 7 tt)] (recM Mm7 nD (nI e) (nI v) (nI nB) (nI (nD + 1))) = G M') → M' = recM Mm8 nD (nI e) (nI v) (nI nB) (nI (nD + 1)) := fun {M'} h => by
        have := (h (fun M => some (0, [], M))).symm.trans (s2' _)
        injection this with this
        injection this with _ this
        injection this with _ this
      have m8 : ∀ j, j ≠ 39 → j ≠ 47 → j ≠ 52 → Mm8 1 j = sm_up Mm 1 48 (nI k) 1 j := fun j a b c => by rw [s3' j a b, m7 j a b c]
      have hlam := r_lam (y := B 11 e) he4 htl (show nD < 64 by omega) b2 r1 k13 s1' (by rw [m8 53 (by decide) (by decide) (by decide)]; exact z53)
      rw [m8 51 (by decide) (by decide) (by decide), z51] at hlam
      have jI : ∀ i, i ∈ [((7 : Nat), (2 : Int32), (4 : Int32), B 11 e, Mm7 7 tt)] → wI LC LR i := fun i hi => by
        rw [List.mem_singleton.mp hi, e7]
        exact wI_7 rg2 rg4 (hlc c3.2.1.2.1) (hlm c3.2.1.2.2.2.1) (Or.inl ⟨ta, tb, rfl⟩)
      rcases w_puts (N := N) (D := [d0, d1, d2, d3, p]) hg hp (by omega) [(7, 2, 4, B 11 e, Mm7 7 tt)] _ W7 _ _ c3 jI with ⟨W8, Mc8, Mg8, f1, f2, f3, f4, f5, f6⟩ | ⟨Mc8, Mg8, f1, f2, f3, f4, f5, f6⟩
      · have eg := inj8 f2
        subst eg
        have k47' : Mm8 1 47 = 0 := by have := f3.o47; rwa [recM_1 (by decide)] at this
        have hc := c_58 (B := B) he4 c1 (by rw [c3.rowC hp (by decide) (by decide)]) f1 (by rw [f3.rowC hp (by decide) (by decide)])
        rw [k47', if_pos rfl, r_91 he4 htl (by rw [f3.row (by decide) (by decide)]; exact b13) (show r < 400 by omega) (by rw [recM_1 (by decide), m8 49 (by decide) (by decide) (by decide)]; exact z49), f3.row (by decide) (by decide)] at hlam
        rw [hlam, bi_some, dq_self] at hit
        have hq : ∀ q, 35 < q → q ≠ 39 → q < 44 → rPu (recM Mm8 nD (nI e) (nI v) (nI nB) (nI (nD + 1))) r (Bm 7 tt) q = Mm q := fun q hq h39 h44 => by rw [rPu_o (by omega) h39, f5 q hq, c5 q hq, recM_o (by omega) (by omega), b5 q (by omega), up_ne (by omega)]
        refine Or.inl ⟨B 11 e, _, _, cur, nV, nD + 1, [nB], [], [], W8, A, TE, BD, Mc8, _, hc, w_loop (by omega) h48 hS.o47 hit, w_fin (by rw [List.append_nil, List.append_nil]; exact f3), by rw [List.append_nil]; exact hlc f3.2.1.2.1, ⟨?_, rPu_49, ?_, by rw [rPu_39, upd_at, List.append_nil]; exact hlm f3.2.1.2.2.2.1⟩, ⟨fun j hj => ?_, fun j hj => ?_⟩, Nat.le_refl _, fun i hi => ⟨rfl, rfl, by rw [hq 40 (by decide) (by decide) (by decide)]⟩⟩
        · rw [rPu_1 (by decide), recM_1 (by decide), m8 48 (by decide) (by decide) (by decide), up_at]
        · rw [rPu_1 (by decide), recM_1 (by decide), m8 51 (by decide) (by decide) (by decide)]; exact z51
        · rw [hq 36 (by decide) (by decide) (by decide), hq 37 (by decide) (by decide) (by decide), hq 38 (by decide) (by decide) (by decide)]
          exact ⟨rfl, rfl, rfl⟩
        · rw [rPu_39, upd_ne (by omega), f5 39 (by decide), c5 39 (by decide), recM_o (by decide) (by decide), b5 39 (by decide), up_ne (by decide)]
      · have eg := inj8 f3
        subst eg
        have hc := c_58 (B := B) he4 c1 (by rw [c3.rowC hp (by decide) (by decide)]) f1 (by rw [f2.rowC hp (by decide) (by decide)])
        have hO8 : wOr Bm LM0 LR Mm8 := wOr_w f4 (fun q a b => (recM_o a (by omega)).symm) (fun j hj => (recM_1 (by omega)).symm)
        rw [hO8.2.2.1, if_neg (by decide), r_91 he4 htl (by rw [hO8.2.2.2.1 13 (by decide)]; exact b13) (show r < 400 by omega) (by rw [m8 49 (by decide) (by decide) (by decide)]; exact z49)] at hlam
        refine ov _ _ hit ?_ ⟨LR, Mm8, Mm8 7 tt, by rw [hlam, bi_some, dq_self], hO8⟩
        rw [hc]
        exact cOv.ret f2 (hlc f2.2.1.1)
    · have eg := inj7 c3
      subst eg
      have hO7 : wOr Bm LM0 LR Mm7 := wOr_w c4 (fun q a b => (recM_o a (by omega)).symm) (fun j hj => (recM_1 (by omega)).symm)
      have k13 : Mm7 13 e = nI tt := by rw [hO7.2.2.2.1 13 (by decide)]; exact b13
      have hlam := r_lam (M3 := Mm7) (y := 0) he4 htl (show nD < 64 by omega) b2 r1 k13 (fun G => r_putsO hO7.2.2.1 _) (by rw [m7 53 (by decide) (by decide) (by decide)]; exact z53)
      rw [hO7.2.2.1, if_neg (by decide), r_91 he4 htl k13 (show r < 400 by omega) (by rw [m7 49 (by decide) (by decide) (by decide)]; exact z49)] at hlam
      refine ov _ _ hit ?_ ⟨LR, Mm7, Mm7 7 tt, by rw [hlam, bi_some, dq_self], hO7⟩
      obtain ⟨M2, g1, g2⟩ := c_putsO (D := [d0, d1, d2, d3, p]) hg hp [(7, 2, 4, B 11 e, 0)] Mc7 c2 (fun i hi => by
        rw [List.mem_singleton.mp hi]
        exact ⟨show (7 : Nat) ≤ 12 by decide, fun _ => ⟨_, hlc c2.2.1.1⟩⟩)
      rw [c_58 (B := B) he4 c1 (by rw [c2.rowC hp (by decide) (by decide)]) g1 (by rw [g2.rowC hp (by decide) (by decide)])]
      exact cOv.ret g2 (hlc g2.2.1.1)
  · have hcls : ∀ {f : Int32 → sm_D → sm_M → Option sm_S}, sm_bi (sm_ga [p] gC (jC_reserve p [d0, d1, d2, d3, p] Mc)) f = f (-1) [d0, d1, d2, d3, p] Mc6 := fun {f} => by rw [ga_in hg, b1, bi_some]
    rw [hcls, dq_self, b2.2.2.1, if_neg (by decide), dq_self]
    have k13 : sm_up (sm_up Mm 1 48 (nI k)) 1 47 1 13 e = nI tt := by rw [b4.2.2.2.1 13 (by decide)]; exact b13
    have hlam := r_lam (M3 := sm_up (sm_up Mm 1 48 (nI k)) 1 47 1) (y := 0) he4 htl (show nD < 64 by omega) b3 (fun G => r_putsO up_at _) k13 (fun G => r_putsO up_at _) (by rw [up_as (by decide)]; exact z53)
    rw [up_at, if_neg (by decide), r_91 he4 htl k13 (show r < 400 by omega) (by rw [up_as (by decide)]; exact z49)] at hlam
    exact ov _ _ hit (c_58O hg hp he4 h11 htt b2) ⟨LR, _, _, by rw [hlam, bi_some, dq_self], b4⟩
end
