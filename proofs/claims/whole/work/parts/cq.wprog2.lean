/-! compile: both sides write a program -/
section
variable {p nE d0 d1 d2 d3 d4 : Nat} {B Bm : sm_M} {L LM0 FR : List Ty} {k0 : Nat} {Ex PB : List Nat} {nC nB cur nV nD N mV k r v w e jj b m m' n h kd s1 : Nat} {LC LR : List Ty} {W : Nat → Ty} {A : Nat → Option Ty} {TE : Nat → Ty} {BD : Nat → List Ty} {Mc Mm Mc' Mm' M : sm_M} {D : sm_D} {t ta tb : Ty}
theorem w_first (hp : 40 ≤ p) (hT : tabC B L) (hTm : tabM Bm LM0) (hL0 : L[0]? = some tyN) (hM00 : LM0[0]? = some tyN) (h25 : B 25 0 = 0) (hFR : ∀ a b, tyF a b ∈ L → tyR b ∈ FR) (hok : ∀ t, t ∈ L → tyok t) : wS p nE B Bm L LM0 FR 0 [] [] 0 1 0 1 0 L LM0 W (u3 A 0 (some tyN) none none) (fun _ => tyN) (fun _ => []) (opC (rvC (cP0 B p) p 0) p 0 (rvC (cP0 B p) p 0 p 6) 0 (-1) (-1) (some tyN) none none) (obM (sm_up (rP0 Bm) 1 52 (nI 1)) 0 0 (-1) (-1)) := by
  obtain ⟨p6, p11, p15, p5, p9⟩ := cP0_p (B := B) hp
  obtain ⟨r47, r39, r52, r53, r49, r50, r51, r42, r43, r40⟩ := rP0_1 (M := Bm)
  have oc : ∀ q, (q < p ∨ p + 9 < q) → q ≠ 24 → opC (rvC (cP0 B p) p 0) p 0 (rvC (cP0 B p) p 0 p 6) 0 (-1) (-1) (some tyN) none none q = B q := fun q a b => by rw [opC_o (by omega) (by omega) (by omega) (by omega), rvC_o (by omega) (by omega), cP0_o (by omega) b]
  have o24 : ∀ j, opC (rvC (cP0 B p) p 0) p 0 (rvC (cP0 B p) p 0 p 6) 0 (-1) (-1) (some tyN) none none 24 j = cP0 B p 24 j := fun j => by rw [opC_o (by omega) (by omega) (by omega) (by omega), rvC_o (by omega) (by omega)]
  have om : ∀ q, q ≠ 1 → (q < 33 ∨ 35 < q) → q ≠ 40 → q ≠ 42 → q ≠ 43 → obM (sm_up (rP0 Bm) 1 52 (nI 1)) 0 0 (-1) (-1) q = Bm q := fun q a b c d f => by rw [obM_o a b, up_ne a, rP0_o a c d f]
  have om1 : ∀ j, j ≠ 39 → (j < 47 ∨ 54 < j) → obM (sm_up (rP0 Bm) 1 52 (nI 1)) 0 0 (-1) (-1) 1 j = Bm 1 j := fun j a b => by rw [obM_1 (by omega), up_as (by omega), rP0_j a (by omega)]
  have e6 : rvC (cP0 B p) p 0 p 6 = nI 0 := by rw [rvC_p (by decide), p6]; rfl
  have hN : ty_pr L 0 (some tyN) := Or.inr ⟨0, tyN, rfl, hL0, nI_0.symm⟩
  have hN' : ty_pr LM0 0 (some tyN) := Or.inr ⟨0, tyN, rfl, hM00, nI_0.symm⟩
  have hbo : wBo p 0 L LM0 (u3 A 0 (some tyN) none none) (opC (rvC (cP0 B p) p 0) p 0 (rvC (cP0 B p) p 0 p 6) 0 (-1) (-1) (some tyN) none none) (obM (sm_up (rP0 Bm) 1 52 (nI 1)) 0 0 (-1) (-1)) 0 := by
    refine ⟨⟨0, 0, by omega, ?_, ?_, ?_, ?_⟩, fun k hk => ?_⟩
    · rw [opC_6, upd_at]; exact e6
    · rw [obM_33, upd_at, up_as (by decide), r39]; rfl
    · rw [opC_o (by omega) (by omega) (by omega) (by omega), rvC_7, upd_at]; rfl
    · rw [obM_34, upd_at]; rfl
    · rw [opC_8, opC_9, obM_35, upd_3, upd_3, upd_3]
      match k, hk with
      | 0, _ => rw [u3_a, u3_a, u3_a, u3_a]; exact ⟨hN, hN', rfl⟩
      | 1, _ => rw [u3_b, u3_b, u3_b, u3_b]; exact ⟨m1n, m1n, rfl⟩
      | 2, _ => rw [u3_c, u3_c, u3_c, u3_c]; exact ⟨m1n, m1n, rfl⟩
  have hcu := cU_le L FR
  have hb0 : ∀ b, b < 1 → wBo p 0 L LM0 (u3 A 0 (some tyN) none none) (opC (rvC (cP0 B p) p 0) p 0 (rvC (cP0 B p) p 0 p 6) 0 (-1) (-1) (some tyN) none none) (obM (sm_up (rP0 Bm) 1 52 (nI 1)) 0 0 (-1) (-1)) b := fun b hb => by
    have : b = 0 := by omega
    subst this
    exact hbo
  refine ⟨⟨by decide, by decide, by decide, by decide, by omega, by decide⟩, ⟨tabC_o (fun q hq => oc q (by omega) (by omega)) hT, ⟨[], by rw [List.append_nil]⟩, tabM_o (fun q a b => om q (by omega) (by omega) (by omega) (by omega) (by omega)) (om1 1 (by decide) (by decide)) hTm, ⟨[], by rw [List.append_nil]⟩, by omega, by omega, hFR, hok, hL0, hM00⟩, ⟨by rw [opC_p (by decide)]; exact e6, by rw [opC_p (by decide)]; exact up_at, opC_12, by rw [opC_p (by decide), rvC_p (by decide)]; exact p15, by rw [o24]; exact p5, by rw [o24]; exact p9⟩, ⟨by rw [obM_1 (by decide), up_as (by decide)]; exact r39, by rw [obM_1 (by decide), up_at], ?_, by rw [obM_1 (by decide), up_as (by decide)]; exact r47, by rw [obM_1 (by decide), up_as (by decide)]; exact r50, by rw [obM_1 (by decide), up_as (by decide)]; exact r53⟩, fun i hi => absurd hi (by omega), ⟨⟨fun b hb => Or.inl (hb0 b hb), fun b hb => absurd hb (by simp), List.nodup_nil, rfl, fun i b hb => absurd hb (by simp)⟩, hbo⟩, fun i hi => ?_, fun k hk => absurd hk (by omega), fun q a b c => oc q c (by omega), fun q hq => om q (by omega) (by omega) (by omega) (by omega) (by omega), fun j a b c => om1 j b c⟩
  · unfold obM
    rw [up_ne (by decide), up_ne (by decide), up_ne (by decide), up_ne (by decide), up_ne (by decide), up_at]
  · have hi0 : i = 0 := by omega
    subst hi0
    refine ⟨?_, ?_, Or.inl ⟨rfl, rfl, rfl, ?_⟩⟩
    · rw [oc 25 (by omega) (by decide), h25]; exact hN
    · rw [obM_o (by decide) (by decide), up_ne (by decide), r42]; exact hN'
    · rw [obM_o (by decide) (by decide), up_ne (by decide)]; exact r43
theorem w_prog (hg : [p] ∈ gC) (hp : 40 ≤ p) (hH : vH nE L B Bm) (hL : L.length + FR.length ≤ 60) (hL30 : L.length ≤ 30) (hM0 : LM0.length + 350 < 2990) (hT : tabC B L) (hTm : tabM Bm LM0) (hL0 : L[0]? = some tyN) (hM00 : LM0[0]? = some tyN) (h25 : B 25 0 = 0) (hFR : ∀ a b, tyF a b ∈ L → tyR b ∈ FR) (hok : ∀ t, t ∈ L → tyok t) (h7 : ∀ (i : Nat) (t : Ty), L[i]? = some t → ty_pr LM0 (Bm 7 i) (some t)) (he : e < nE) (hTe : pT (B 10) (B 11) (B 12) (B 13) (B 14) L m [] e t) : wPg p nE B Bm L LM0 FR [d0, d1, d2, d3, p] (jW_translate p d0 d1 d2 d3 d4 (nI e) B) (jR_writeProgram (nI e) [] Bm) := by
  have hl := hH.1
  have hS := w_first (p := p) (nE := nE) (B := B) (Bm := Bm) (L := L) (LM0 := LM0) (FR := FR) (W := fun _ => tyN) (A := fun _ => none) hp hT hTm hL0 hM00 h25 hFR hok
  obtain ⟨p6, p11, p15, p5, p9⟩ := cP0_p (B := B) hp
  obtain ⟨r47, r39, r52, r53, r49, r50, r51, r42, r43, r40⟩ := rP0_1 (M := Bm)
  have hN : ty_pr L 0 (some tyN) := Or.inr ⟨0, tyN, rfl, hL0, nI_0.symm⟩
  have hTc : tabC (rvC (cP0 B p) p 0) L := tabC_o (fun q hq => by rw [rvC_o (by omega) (by omega), cP0_o (by omega) (by omega)]) hT
  have hrv := c_reserve (D := [d0, d1, d2, d3, p]) (n := 0) (Mc := cP0 B p) (p := p) p11 (by decide)
  have hop := k_open (D := [d0, d1, d2, d3, p]) (n := 0) (m := 1) (a := 0) (b := -1) (c := -1) hg hp (by decide) (by decide) (show rvC (cP0 B p) p 0 p 11 = nI 1 from up_at) hTc hN m1n m1n
  obtain ⟨h, kd, o1, o2, o3, o4, o5, -⟩ := hH.2.2 e he
  generalize hMc : opC (rvC (cP0 B p) p 0) p 0 (rvC (cP0 B p) p 0 p 6) 0 (-1) (-1) (some tyN) none none = Mc at hS hop
  have hcls : jW_translate p d0 d1 d2 d3 d4 (nI e) B = sm_bi (sm_ga [p] gC (jW_write 8 d0 d1 d2 d3 p (nI e) 0 Mc)) (fun x6 E6 M6 => sm_dq E6 [d0, d1, d2, d3, p] (cPuts p [d0, d1, d2, d3, p] (fun M => jW_translate_60 p d0 d1 d2 d3 d4 0 M) [(12, 0, 0, 0, 0)] M6)) := by
    unfold jW_translate jC_wipe
    simp only [sm_wr, bo_0]
    rw [ga_in hg, bi_some, dq_self]
    show sm_bi (sm_ga [p] gC (jC_reserve p [d0, d1, d2, d3, p] (cP0 B p))) _ = _
    rw [ga_in hg, hrv, bi_some, dq_self, ga_in hg, hop, bi_some, dq_self]
    simp only [dq_self]
    rfl
  have hnm : jR_name [] (rP0 Bm) = some (nI 0, [], sm_up (rP0 Bm) 1 52 (nI 1)) := by
    unfold jR_name jR_name_22 jR_name_42
    simp only [sm_wr]
    rw [r47, if_pos rfl, r52, if_neg (show ¬ (0 : Int32) = 40 by decide), bo_0, up_ida r47, r47, if_pos rfl, r52, up_at]
    rfl
  have k0 : ∀ {ρ : Type} {q : Option ρ}, sm_ck (0 : Int32) 1200 q = q := fun {ρ q} => by
    have : sm_ck (nI 0) 1200 q = q := ck_nI (by decide) (by decide)
    rwa [nI_0] at this
  have href : jR_writeProgram (nI e) [] Bm = sm_bi (jR_writeAll_12 [] (rLa (sm_up (obM (sm_up (rP0 Bm) 1 52 (nI 1)) 0 0 (-1) (-1)) 1 48 0) 0 0 (nI e) 0)) (fun _ E13 M13 => sm_dq E13 [] (rPuts (fun M => jR_writeProgram_83 0 [] M) [(12, 0, 0, 0, 0)] M13)) := by
    unfold jR_writeProgram jR_writeAll
    simp only [sm_wr, bo_0, k0]
    show sm_bi (jR_name [] (rP0 Bm)) _ = _
    rw [hnm, bi_some, dq_self, r_beginB (by decide), bi_some, dq_self, r_later (k := 0) (by decide) (by rw [up_at, nI_0]), bi_some, dq_self]
    rfl
  rw [hcls, href]
  have hS1 : wS p nE B Bm L LM0 FR 0 [] [] 0 1 0 1 0 L LM0 (fun _ => tyN) (u3 (fun _ => none) 0 (some tyN) none none) (fun _ => tyN) (fun _ => []) Mc (rLa (sm_up (obM (sm_up (rP0 Bm) 1 52 (nI 1)) 0 0 (-1) (-1)) 1 48 0) 0 0 (nI e) 0) := w_la (wS_w hS (fun q a _ => up_ne a) (fun j a _ _ => up_as a))
  have hq := w_all (d0 := d0) (d1 := d1) (d2 := d2) (d3 := d3) hg hp hH hL hL30 (k0 := 0) (by omega) hL0 h7 8 (Nat.le_refl _) [] [] 0 1 0 1 0 L LM0 _ _ _ _ Mc _ e 0 m 0 0 t hS1 he ⟨_, o5, o4⟩ (by decide) hTe (by decide) (by decide) rLa_48 rLa_at.1 rLa_at.2.1 (by rw [rLa_1 (by decide), up_as (by decide), obM_1 (by decide), up_as (by decide)]; exact r49) (by rw [rLa_1 (by decide), up_as (by decide), obM_1 (by decide), up_as (by decide)]; exact r51)
  have hq' : wQ p nE B Bm L LM0 FR 0 [] [] 1 L LM0 (fun _ => tyN) (fun _ => []) [d0, d1, d2, d3, p] (400 + 8) t 0 0 0 (rLa (sm_up (obM (sm_up (rP0 Bm) 1 52 (nI 1)) 0 0 (-1) (-1)) 1 48 0) 0 0 (nI e) 0) (jW_write 8 d0 d1 d2 d3 p (nI e) 0 Mc) (jR_writeAll_12 [] (rLa (sm_up (obM (sm_up (rP0 Bm) 1 52 (nI 1)) 0 0 (-1) (-1)) 1 48 0) 0 0 (nI e) 0)) := hq
  rw [ga_in hg]
  rcases hq' with ⟨x9, nC9, nB9, cur9, nV9, nD9, PB9, KC9, KR9, W9, A9, TE9, BD9, Mc9, Mm9, e1, e2, e3, e4, ⟨e5, e6, e7, e8⟩, e10, e11, e12⟩ | ⟨⟨x9, K, M', ox, e1, e2, e3⟩, LR', Mo, r', e4, e5, e6, e7, e8⟩
  · rw [e1, bi_some, dq_self, e2, w_end (by rw [e5, nI_0]), bi_some, dq_self]
    have hlen := e3.len hL
    rcases w_puts (N := 410) (D := [d0, d1, d2, d3, p]) hg hp (by omega) [(12, 0, 0, 0, 0)] _ W9 Mc9 Mm9 e3 (fun i hi => by
      rw [List.mem_singleton.mp hi]
      exact ⟨show (12 : Nat) ≤ 12 by decide, ⟨rfl, rfl, rfl⟩, Or.inr (Or.inr (Or.inr (Or.inr (Or.inr (Or.inr (Or.inr (Or.inr rfl))))))), fun _ => rfl, fun q => absurd q (show ¬ (12 : Nat) = 7 by decide)⟩) with ⟨W10, Mc10, Mm10, l1, l2, l3, l4, l5, l6⟩ | ⟨Mc10, Mo, l1, l2, l3, l4, l5, l6⟩
    · rw [l1, l2]
      exact w_bods (d4 := d4) hg hp hH hL hL30 hM0 hL0 h7 40 0 _ _ nB9 cur9 nV9 nD9 _ _ W10 A9 TE9 BD9 Mc10 Mm10 (by decide) l3 (by rw [l6 49 (by decide)]; exact e6)
    · rw [l1, l3]
      exact Or.inr ⟨_, _, sm_up Mc10 p 13 0, Mo, c_60O hp l2 _, r_83p l4 _, ((c_106O (d0 := d0) (d1 := d1) (d2 := d2) (d3 := d3) (d4 := d4) hp l2).2).less (Nat.zero_le _), l4⟩
  · rw [e1, bi_some, dq_self, e4, bi_some, dq_self, r_putsO e5.2.2.1]
    obtain ⟨M2, g1, g2⟩ := c_putsO (D := [d0, d1, d2, d3, p]) hg hp [(12, 0, 0, 0, 0)] M' e2 (fun i hi => by
      rw [List.mem_singleton.mp hi]
      exact ⟨show (12 : Nat) ≤ 12 by decide, fun q => absurd q (show ¬ (12 : Nat) = 7 by decide)⟩)
    rw [g1]
    exact Or.inr ⟨_, _, sm_up M2 p 13 0, Mo, c_60O hp g2 _, r_83p e5 _, (((c_106O (d0 := d0) (d1 := d1) (d2 := d2) (d3 := d3) (d4 := d4) hp g2).2).less (Nat.zero_le _)).mono (by decide), e5⟩
end
