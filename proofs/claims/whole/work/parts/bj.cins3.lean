/-! the check, the class's side: any instruction -/
theorem ty_hid_inj {m n : Nat} (e : ty_hid m = ty_hid n) : m = n := by
  unfold ty_hid at e
  injection e with _ e2
  injection e2
section
variable {B M : sm_M} {L0 FR LC : List Ty} {h i N p nB nC n d0 d1 d2 d4 : Nat} {W : Nat → Ty} {A : Nat → Option Ty} {o a b c : Nat → Int32} {R : Nat → Option Ty} {D : sm_D} {x y z : Int32} {o1 o2 o3 : Option Ty} {t : Ty}
theorem c_go (hX : cX B L0 FR h i N LC R M) (hp : ty_pr LC x (some (ty_mk 4 o1 o2 o3))) : rz (pFit R o1 o2 o3) (jK_canGo x D M) D M := by
  obtain ⟨x1, x2, x3, f1, f2, f3, p1, p2, p3⟩ := c_parts hX.1.1 hp
  unfold jK_canGo jK_canGo_52 jK_canGo_53
  rw [f1, bi_some, dq_self]
  refine rz_bi (c_give (k := 1) hX (by decide) p1) bo_0 ?_
  rw [f2, bi_some, dq_self]
  refine rz_bi (c_give (k := 2) hX (by decide) p2) bo_0 ?_
  rw [f3, bi_some, dq_self]
  have g3 := c_give (D := D) (k := 3) hX (by decide) p3
  by_cases g : o3 = none ∨ R 3 = o3
  · rw [show (3 : Int32) = nI 3 from rfl, g3.1 g, bi_some, dq_self, if_neg (by decide)]
    exact ⟨fun _ => bo_1, fun q => absurd g q⟩
  · rw [show (3 : Int32) = nI 3 from rfl, g3.2 g, bi_some, dq_self, if_pos rfl]
    exact ⟨fun q => absurd q g, fun _ => bo_0⟩
theorem c_74 {N1 : Nat} {K : List Ty} {M1 : sm_M} {xh xs : Int32} {q1 q2 q3 qs : Option Ty} {k ka kb : Nat} (hka : 1 ≤ ka ∧ ka ≤ 5) (hkb : 1 ≤ kb ∧ kb ≤ 5) (hX : cX B L0 FR h (i + 1) N1 (LC ++ K) R M1) (hN1 : N1 < 800) (hh : ty_pr (LC ++ K) xh (some (ty_hid (h + i)))) (hs : ty_pr (LC ++ K) xs qs) (hp : ty_pr (LC ++ K) x (some (ty_mk k q1 q2 q3))) : ∃ LC' M', jK_opens_74 (nI ka) (nI kb) x xh xs D M1 = some (1, D, M') ∧ cX B L0 FR h (i + 1) (N1 + 1) LC' (rg (rg R ka (some (ty_mk 4 (some (ty_hid (h + i))) q1 qs))) kb (some (ty_hid (h + i)))) M' := by
  obtain ⟨x1, x2, x3, f1, f2, f3, p1, p2, p3⟩ := c_parts hX.1.1 hp
  obtain ⟨w, K2, M2, e1, e2, e3⟩ := c_fd (D := D) (n := 4) hX (by decide) (by decide) (Or.inr (Or.inr (Or.inr (Or.inr ⟨_, _, _, rfl⟩)))) hh p1 hs (N' := N1 + 1) (Or.inl ⟨Nat.le_refl _, hN1⟩)
  refine ⟨LC ++ K ++ K2, sm_up (sm_up M2 32 ka w) 32 kb xh, ?_, (e3.rgs e2).rgs hh.grow⟩
  unfold jK_opens_74 jK_taken jK_opens_115 jK_opens_116
  rw [f1, bi_some, dq_self, bi_some, dq_self, show (4 : Int32) = nI 4 from rfl, e1, bi_some, dq_self, c_gets hka, bi_some, dq_self, if_neg (by decide), c_gets hkb, bi_some, dq_self, if_neg (by decide), bo_1]
theorem c_open (hX : cX B L0 FR h i N LC R M) (hN : N + 2 ≤ 800) (ho : o i = 8) (ha : reg5 (a i)) (hb : reg5 (b i)) (hc : reg5 (c i)) : cR B L0 FR h i N nB W A o a b c R D (jK_opens (a i) (b i) (M 32 (c i).toNatClampNeg) D M) := by
  obtain ⟨ka, ha1, ha2, ha3⟩ := reg_at ha
  obtain ⟨kb, hb1, hb2, hb3⟩ := reg_at hb
  obtain ⟨kc, hc1, hc2, hc3⟩ := reg_at hc
  have xa : xN a i = ka := ha3
  have xb : xN b i = kb := hb3
  have xc : xN c i = kc := hc3
  have hT := hX.1.1
  have hr := hX.r1 hc1
  have hl := hX.2.1
  have k2 : kdI (R kc) = (2 : Int32) ↔ ∃ q1 q2 q3, R kc = some (ty_mk 2 q1 q2 q3) := kdI_is hT hr (k := 2) (by decide)
  have k3 : kdI (R kc) = (3 : Int32) ↔ ∃ q1 q2 q3, R kc = some (ty_mk 3 q1 q2 q3) := kdI_is hT hr (k := 3) (by decide)
  obtain ⟨Mh, jh, hTh, hoh⟩ := j_hidden (D := D) hT (by omega) (h + i) (hX.2.2.2.1 i (Nat.le_refl _))
  have hsub : ∀ t, t ∈ LC → t ∈ LC ++ [ty_hid (h + i)] := fun t ht => List.mem_append_left _ ht
  have hm := cU_mono hsub FR
  have hXh : cX B L0 FR h (i + 1) (N + 1) (LC ++ [ty_hid (h + i)]) R Mh := hX.push hTh hoh (by rw [List.length_append]; show LC.length + 1 + _ ≤ _; omega) (fun x y q => ty_mk_hid q.symm) (Or.inr ⟨_, rfl⟩) (by omega) (fun m hm q => by have := ty_hid_inj q; omega)
  have hhid : ty_pr (LC ++ [ty_hid (h + i)]) (nI LC.length) (some (ty_hid (h + i))) := Or.inr ⟨LC.length, _, rfl, by rw [List.getElem?_append_right (Nat.le_refl _), Nat.sub_self]; rfl, rfl⟩
  unfold jK_opens
  rw [hc3, ha2, hb2, c_kd hT hr, bi_some, dq_self]
  by_cases g2 : kdI (R kc) = 2
  · obtain ⟨q1, q2, q3, e⟩ := k2.mp g2
    rw [e] at hr
    obtain ⟨t1, t2, rfl, rfl, rfl⟩ := tyok_2 (hX.2.2.2.2.2.1 _ (pr_mem hr))
    have hFR : tyR t2 ∈ FR := hX.2.2.1 t1 t2 (pr_mem hr)
    obtain ⟨x1, x2, x3, f1, f2, f3, p1, p2, p3⟩ := c_parts hTh (hr.grow (K := [ty_hid (h + i)]))
    obtain ⟨w, K2, M2, e1, e2, e3⟩ := c_fd (D := D) (n := 3) (z := -1) (y := -1) (o2 := none) (o3 := none) hXh (by decide) (by decide) (Or.inr (Or.inr (Or.inr (Or.inl ⟨t2, rfl⟩)))) p2 (Or.inl ⟨rfl, rfl⟩) (Or.inl ⟨rfl, rfl⟩) (N' := N + 1) (Or.inr ⟨Nat.le_refl _, by omega, hFR⟩)
    rw [List.append_assoc] at e2 e3
    obtain ⟨LC', M', j1, j2⟩ := c_74 (D := D) (LC := LC) (K := [ty_hid (h + i)] ++ K2) ha1 hb1 e3 (by omega) (by rw [← List.append_assoc]; exact hhid.grow) e2 hr.grow
    rw [if_pos g2]
    unfold jK_opens_17 jK_opens_38
    rw [if_neg (show ¬ (1 : Int32) = 0 by decide), jh, bi_some, dq_self, if_neg (show ¬ (1 : Int32) = 0 by decide), f2, bi_some, dq_self, show (3 : Int32) = nI 3 from rfl, e1, bi_some, dq_self, j1]
    refine Or.inl ⟨_, LC', M', rfl, (pS_8 ho).mpr ⟨2, some t1, some t2, none, by rw [xc]; exact e, Or.inl rfl, ?_⟩, by rw [cwt_8 ho]; exact j2⟩
    rw [xa, xb, if_pos rfl]
  · rw [if_neg g2]
    unfold jK_opens_17
    rw [if_pos rfl, c_kd hT hr, bi_some, dq_self]
    by_cases g3 : kdI (R kc) = 3
    · obtain ⟨q1, q2, q3, e⟩ := k3.mp g3
      rw [e] at hr
      obtain ⟨LC', M', j1, j2⟩ := c_74 (D := D) (LC := LC) (K := [ty_hid (h + i)]) (xs := -1) (qs := none) ha1 hb1 hXh (by omega) hhid (Or.inl ⟨rfl, rfl⟩) hr.grow
      rw [if_pos g3]
      unfold jK_opens_38
      rw [jh, bi_some, dq_self, if_pos rfl, j1]
      refine Or.inl ⟨_, LC', M', rfl, (pS_8 ho).mpr ⟨3, q1, q2, q3, by rw [xc]; exact e, Or.inr rfl, ?_⟩, by rw [cwt_8 ho]; exact j2⟩
      rw [xa, xb, if_neg (by decide)]
    · rw [if_neg g3, bo_0]
      refine cR_no hX rfl (fun R' q => ?_)
      obtain ⟨k, q1, q2, q3, e, kk, -⟩ := (pS_8 ho).mp q
      rw [xc] at e
      rcases kk with rfl | rfl
      · exact g2 (k2.mpr ⟨_, _, _, e⟩)
      · exact g3 (k3.mpr ⟨_, _, _, e⟩)
theorem c_ins (hg : [p] ∈ gC) (h33 : 33 ≤ p) (hC : cC B L0 p nB nC W A o a b c) (hi : i < nC) (hX : cX B L0 FR h i N LC R M) (hN : N + cwt (o i) ≤ 800) : cR B L0 FR h i N nB W A o a b c R [d0, d1, d2, p, d4] (jK_isRight d0 d1 d2 p d4 (nI i) M) := by
  obtain ⟨hC300, hB40, h11, hrow, hA⟩ := id hC
  obtain ⟨r1, r2, r3, r4, r7, rf⟩ := hrow i hi
  have hT := hX.1.1
  have ki : ∀ {ρ : Type} {q : Option ρ}, sm_ck (nI i) 300 q = q := ck_nI (by omega) (by decide)
  have ci : (nI i).toNatClampNeg = i := nI_clamp (by omega)
  have e1 : M (p + 1) i = o i := by rw [hX.row (by omega)]; exact r1
  have e2 : M (p + 2) i = a i := by rw [hX.row (by omega)]; exact r2
  have e3 : M (p + 3) i = b i := by rw [hX.row (by omega)]; exact r3
  have e4' : M (p + 4) i = B (p + 4) i := by rw [hX.row (by omega)]
  have k6 : ∀ {x : Int32}, reg5 x → ∀ {ρ : Type} {q : Option ρ}, sm_ck x 6 q = q := fun hx => by
    obtain ⟨k, hk, e, -⟩ := reg_at hx
    rw [e]
    exact ck_nI (by omega) (by decide)
  unfold jK_isRight
  simp only [ki, ci, e1, e2, e3, e4', dq_self]
  rcases rf with ⟨ho, ha⟩ | ⟨ho, ha, hb, hc⟩ | ⟨ho, ha, hb, hc⟩ | ⟨ho, ha, hb⟩ | ⟨ho, ha, hb⟩ | ⟨ho, ha⟩ | ⟨ho, ha, hb⟩ | ⟨ho, ha⟩ | ho
  · obtain ⟨ka, ha1, ha2, ha3⟩ := reg_at ha
    have xa : xN a i = ka := ha3
    rw [ho, if_pos rfl, ha2, c_gets ha1, bi_some, dq_self, bo_1]
    exact Or.inl ⟨rg R ka (some tyN), LC, _, rfl, (pS_0 ho).mpr (by rw [xa]), (hX.rgs hX.tn).next.mono (by omega)⟩
  · rcases ho with ho | ho | ho | ho | ho
    · rw [r4 (by rw [ho]; decide), ho, if_neg (show ¬ (1 : Int32) = 0 by decide), if_pos rfl]
      exact c_reck hX ha hb hc (fun R' => pS_1 ho)
    · rw [r4 (by rw [ho]; decide), ho, if_neg (show ¬ (2 : Int32) = 0 by decide), if_neg (show ¬ (2 : Int32) = 1 by decide), if_pos rfl]
      exact c_reck hX ha hb hc (fun R' => pS_2 ho)
    · rw [r4 (by rw [ho]; decide), ho, if_neg (show ¬ (3 : Int32) = 0 by decide), if_neg (show ¬ (3 : Int32) = 1 by decide), if_neg (show ¬ (3 : Int32) = 2 by decide), if_pos rfl]
      exact c_reck hX ha hb hc (fun R' => pS_3 ho)
    · obtain ⟨ka, ha1, ha2, ha3⟩ := reg_at ha
      obtain ⟨kb, hb1, hb2, hb3⟩ := reg_at hb
      obtain ⟨kc, hc1, hc2, hc3⟩ := reg_at hc
      have xa : xN a i = ka := ha3
      have xb : xN b i = kb := hb3
      have xc : xN c i = kc := hc3
      have mb := ty_pr.m1 hX.lt (hX.r1 hb1)
      have mc := ty_pr.m1 hX.lt (hX.r1 hc1)
      rw [r4 (by rw [ho]; decide), ho, if_neg (show ¬ (4 : Int32) = 0 by decide), if_neg (show ¬ (4 : Int32) = 1 by decide), if_neg (show ¬ (4 : Int32) = 2 by decide), if_neg (show ¬ (4 : Int32) = 3 by decide), if_pos rfl, k6 hb, k6 hb, k6 hc, k6 hc, hb3, hc3]
      unfold jK_isRight_200 jK_isRight_201
      simp only [dq_self]
      by_cases g1 : M 32 kb = -1
      · rw [if_pos g1, bo_0]
        refine cR_no hX rfl (fun R' q => ?_)
        obtain ⟨t, u, q1, -⟩ := (pS_4 ho).mp q
        rw [xb, mb.mp g1] at q1
        cases q1
      · by_cases g2 : M 32 kc = -1
        · rw [if_neg g1, if_pos g2, bo_0]
          refine cR_no hX rfl (fun R' q => ?_)
          obtain ⟨t, u, -, q2, -⟩ := (pS_4 ho).mp q
          rw [xc, mc.mp g2] at q2
          cases q2
        · obtain ⟨t, ht⟩ : ∃ t, R kb = some t := by
            cases hR : R kb with
            | none => exact absurd (mb.mpr hR) g1
            | some t => exact ⟨t, rfl⟩
          obtain ⟨u, hu⟩ : ∃ u, R kc = some u := by
            cases hR : R kc with
            | none => exact absurd (mc.mpr hR) g2
            | some t => exact ⟨t, rfl⟩
          have pb := hX.r1 hb1
          have pc := hX.r1 hc1
          rw [ht] at pb
          rw [hu] at pc
          have hw := cwt_4 ho
          obtain ⟨w, K, M', f1, f2, f3⟩ := c_fd (D := [d0, d1, d2, p, d4]) (n := 1) (z := -1) (o3 := none) hX (by decide) (by decide) (Or.inr (Or.inl ⟨t, u, rfl⟩)) pb pc (Or.inl ⟨rfl, rfl⟩) (N' := N + 1) (Or.inl ⟨Nat.le_refl _, by omega⟩)
          have f1' : jT_find 1 (M 32 kb) (M 32 kc) (-1) [d0, d1, d2, p, d4] M = some (w, [d0, d1, d2, p, d4], M') := f1
          rw [if_neg g1, if_neg g2, f1', bi_some, dq_self, ha2, c_gets ha1, bi_some, dq_self, if_neg (by decide)]
          exact Or.inl ⟨rg R ka (some (tyP t u)), LC ++ K, _, bo_1, (pS_4 ho).mpr ⟨t, u, by rw [xb]; exact ht, by rw [xc]; exact hu, by rw [xa]⟩, (f3.rgs f2).next.mono (by omega)⟩
    · rw [r4 (by rw [ho]; decide), ho, if_neg (show ¬ (8 : Int32) = 0 by decide), if_neg (show ¬ (8 : Int32) = 1 by decide), if_neg (show ¬ (8 : Int32) = 2 by decide), if_neg (show ¬ (8 : Int32) = 3 by decide), if_neg (show ¬ (8 : Int32) = 4 by decide), if_neg (show ¬ (8 : Int32) = 5 by decide), if_neg (show ¬ (8 : Int32) = 6 by decide), if_neg (show ¬ (8 : Int32) = 7 by decide), if_pos rfl, k6 hc]
      have hq := c_open (D := [d0, d1, d2, p, d4]) (nB := nB) (W := W) (A := A) hX (by rw [cwt_8 ho] at hN; exact hN) ho ha hb hc
      rcases hq with ⟨R', LC', M', j1, j2, j3⟩ | ⟨LC', M', j1, j2, j3⟩
      · rw [j1, bi_some, dq_self, bo_1]
        exact Or.inl ⟨R', LC', M', rfl, j2, j3⟩
      · rw [j1, bi_some, dq_self, bo_0]
        exact Or.inr ⟨LC', M', rfl, j2, j3⟩
  · obtain ⟨ka, ha1, ha2, ha3⟩ := reg_at ha
    obtain ⟨kb, hb1, hb2, hb3⟩ := reg_at hb
    have xa : xN a i = ka := ha3
    have xb : xN b i = kb := hb3
    have pb := hX.r1 hb1
    have k1 : kdI (R kb) = (1 : Int32) ↔ ∃ q1 q2 q3, R kb = some (ty_mk 1 q1 q2 q3) := kdI_is hT pb (k := 1) (by decide)
    rw [r4 (by rw [ho]; decide), ho, if_neg (show ¬ (5 : Int32) = 0 by decide), if_neg (show ¬ (5 : Int32) = 1 by decide), if_neg (show ¬ (5 : Int32) = 2 by decide), if_neg (show ¬ (5 : Int32) = 3 by decide), if_neg (show ¬ (5 : Int32) = 4 by decide), if_pos rfl]
    simp only [k6 hb, hb3]
    rw [c_kd hT pb, bi_some, dq_self]
    unfold jK_isRight_255 jK_isRight_265 jK_isRight_266
    simp only [dq_self]
    by_cases g1 : kdI (R kb) = 1
    · obtain ⟨q1, q2, q3, e⟩ := k1.mp g1
      rw [e] at pb
      obtain ⟨x1, x2, x3, f1, f2, f3, p1, p2, p3⟩ := c_parts hT pb
      rw [if_pos g1, f1, bi_some, f2, bi_some, dq_self, dq_self, ha2, c_gets ha1, bi_some, dq_self, if_neg (show ¬ (1 : Int32) = 0 by decide), c_gets ha1, bi_some, dq_self, if_neg (show ¬ (1 : Int32) = 0 by decide)]
      by_cases gc : c i = 0
      · rw [if_pos gc]
        exact Or.inl ⟨rg R ka q1, LC, _, bo_1, (pS_5 ho).mpr ⟨q1, q2, q3, by rw [xb]; exact e, by rw [xa, if_pos gc]⟩, (hX.rgs p1).next.mono (by omega)⟩
      · rw [if_neg gc]
        exact Or.inl ⟨rg R ka q2, LC, _, bo_1, (pS_5 ho).mpr ⟨q1, q2, q3, by rw [xb]; exact e, by rw [xa, if_neg gc]⟩, (hX.rgs p2).next.mono (by omega)⟩
    · rw [if_neg g1, bo_0]
      refine cR_no hX rfl (fun R' q => ?_)
      obtain ⟨q1, q2, q3, e, -⟩ := (pS_5 ho).mp q
      exact g1 (k1.mpr ⟨q1, q2, q3, by rw [← xb]; exact e⟩)
  · obtain ⟨ka, ha1, ha2, ha3⟩ := reg_at ha
    have xa : xN a i = ka := ha3
    obtain ⟨n, hn, hb2⟩ := hb
    have h11' : M p 11 = nI nB := by rw [hX.row h33]; exact h11
    rw [ho, if_neg (show ¬ (6 : Int32) = 0 by decide), if_neg (show ¬ (6 : Int32) = 1 by decide), if_neg (show ¬ (6 : Int32) = 2 by decide), if_neg (show ¬ (6 : Int32) = 3 by decide), if_neg (show ¬ (6 : Int32) = 4 by decide), if_neg (show ¬ (6 : Int32) = 5 by decide), if_pos rfl, ga_in hg, hb2]
    unfold jK_isRight_295 jK_isRight_296
    simp only [dq_self]
    rcases c_hasB (D := [d0, d1, d2, p, d4]) hB40 h11' (nI n) with ⟨n', hn', e, q⟩ | ⟨q, qj⟩
    · have en : n = n' := nI_inj (by omega) (by omega) e
      subst en
      have h1 := c_asked (D := [d0, d1, d2, p, d4]) hg h33 hC hX hn' (show 0 < 3 by decide)
      have h2 := c_asked (D := [d0, d1, d2, p, d4]) hg h33 hC hX hn' (show 1 < 3 by decide)
      have h3 := c_asked (D := [d0, d1, d2, p, d4]) hg h33 hC hX hn' (show 2 < 3 by decide)
      have hw := cwt_6 ho
      obtain ⟨w, K, M', f1, f2, f3⟩ := c_fd (D := [d0, d1, d2, p, d4]) (n := 4) hX (by decide) (by decide) (Or.inr (Or.inr (Or.inr (Or.inr ⟨_, _, _, rfl⟩)))) (hX.up0 (hA (3 * n + 0) (by omega))) (hX.up0 (hA (3 * n + 1) (by omega))) (hX.up0 (hA (3 * n + 2) (by omega))) (N' := N + 1) (Or.inl ⟨Nat.le_refl _, by omega⟩)
      have ht : jK_typeOfBlock d0 d1 d2 p d4 (nI n) M = some (w, [d0, d1, d2, p, d4], M') := by
        unfold jK_typeOfBlock
        have h1' : jC_askedType p (nI n) 1 [d0, d1, d2, p, d4] M = some (B (p + 8) (3 * n + 0), [d0, d1, d2, p, d4], M) := h1
        have h2' : jC_askedType p (nI n) 2 [d0, d1, d2, p, d4] M = some (B (p + 8) (3 * n + 1), [d0, d1, d2, p, d4], M) := h2
        have h3' : jC_askedType p (nI n) 3 [d0, d1, d2, p, d4] M = some (B (p + 8) (3 * n + 2), [d0, d1, d2, p, d4], M) := h3
        have f1' : jT_find 4 (B (p + 8) (3 * n + 0)) (B (p + 8) (3 * n + 1)) (B (p + 8) (3 * n + 2)) [d0, d1, d2, p, d4] M = some (w, [d0, d1, d2, p, d4], M') := f1
        rw [ga_in hg, h1', bi_some, dq_self, ga_in hg, h2', bi_some, dq_self, ga_in hg, h3', bi_some, dq_self, f1', bi_some, dq_self]
      rw [q, bi_some, dq_self, if_neg (show ¬ (1 : Int32) = 0 by decide), ga_in hg, ht, bi_some, dq_self, ha2, c_gets ha1, bi_some, dq_self, if_neg (by decide)]
      exact Or.inl ⟨rg R ka (some (ty_mk 4 (A (3 * n)) (A (3 * n + 1)) (A (3 * n + 2)))), LC ++ K, _, bo_1, (pS_6 ho).mpr ⟨n, hn', hb2, by rw [xa]⟩, (f3.rgs f2).next.mono (by omega)⟩
    · rw [qj, bi_some, dq_self, if_pos rfl, bo_0]
      refine cR_no hX rfl (fun R' z => ?_)
      obtain ⟨n', q1, q2, -⟩ := (pS_6 ho).mp z
      rw [← hb2, q2] at q
      exact q ⟨nI_pos (by omega), nI_lt q1 (by omega)⟩
  · obtain ⟨ka, ha1, ha2, ha3⟩ := reg_at ha
    obtain ⟨kb, hb1, hb2, hb3⟩ := reg_at hb
    have xa : xN a i = ka := ha3
    have xb : xN b i = kb := hb3
    obtain ⟨w7, wk⟩ := r7 ho
    have pw' := hX.up0 w7
    have hz := c_wrap (D := [d0, d1, d2, p, d4]) hX wk (hX.r1 hb1) pw'
    rw [ho, if_neg (show ¬ (7 : Int32) = 0 by decide), if_neg (show ¬ (7 : Int32) = 1 by decide), if_neg (show ¬ (7 : Int32) = 2 by decide), if_neg (show ¬ (7 : Int32) = 3 by decide), if_neg (show ¬ (7 : Int32) = 4 by decide), if_neg (show ¬ (7 : Int32) = 5 by decide), if_neg (show ¬ (7 : Int32) = 6 by decide), if_pos rfl, k6 hb, hb3]
    unfold jK_isRight_326 jK_isRight_327
    simp only [dq_self]
    by_cases g : ∃ q q3, R kb = some (ty_mk 1 (some (ty_mk 4 q (ty_p1 (W i)) (wR (W i)))) q q3)
    · rw [hz.1 g, bi_some, dq_self, if_neg (show ¬ (1 : Int32) = 0 by decide), ha2, c_gets ha1, bi_some, dq_self, if_neg (by decide)]
      obtain ⟨q, q3, e⟩ := g
      exact Or.inl ⟨rg R ka (some (W i)), LC, _, bo_1, (pS_7 ho).mpr ⟨q, q3, by rw [xb]; exact e, by rw [xa]⟩, (hX.rgs pw').next.mono (by omega)⟩
    · rw [hz.2 g, bi_some, dq_self, if_pos rfl, bo_0]
      refine cR_no hX rfl (fun R' z => ?_)
      obtain ⟨q, q3, e, -⟩ := (pS_7 ho).mp z
      rw [xb] at e
      exact g ⟨q, q3, e⟩
  · rw [ho, if_neg (show ¬ (9 : Int32) = 0 by decide), if_neg (show ¬ (9 : Int32) = 1 by decide), if_neg (show ¬ (9 : Int32) = 2 by decide), if_neg (show ¬ (9 : Int32) = 3 by decide), if_neg (show ¬ (9 : Int32) = 4 by decide), if_neg (show ¬ (9 : Int32) = 5 by decide), if_neg (show ¬ (9 : Int32) = 6 by decide), if_neg (show ¬ (9 : Int32) = 7 by decide), if_neg (show ¬ (9 : Int32) = 8 by decide), if_pos rfl, ga_in hg]
    exact cR_look hX (rz_end (c_enter hg h33 hC hX ha)) (fun R' => pS_9 ho)
  · obtain ⟨ka, ha1, ha2, ha3⟩ := reg_at ha
    have xa : xN a i = ka := ha3
    have a0 := hX.is0 (hX.r1 ha1)
    have hz := c_enter (d0 := d0) (d1 := d1) (d2 := d2) (d4 := d4) hg h33 hC hX hb
    rw [ho, if_neg (show ¬ (10 : Int32) = 0 by decide), if_neg (show ¬ (10 : Int32) = 1 by decide), if_neg (show ¬ (10 : Int32) = 2 by decide), if_neg (show ¬ (10 : Int32) = 3 by decide), if_neg (show ¬ (10 : Int32) = 4 by decide), if_neg (show ¬ (10 : Int32) = 5 by decide), if_neg (show ¬ (10 : Int32) = 6 by decide), if_neg (show ¬ (10 : Int32) = 7 by decide), if_neg (show ¬ (10 : Int32) = 8 by decide), if_neg (show ¬ (10 : Int32) = 9 by decide), if_pos rfl, k6 ha, ha3, ga_in hg]
    unfold jK_isRight_369 jK_isRight_370
    simp only [dq_self]
    refine cR_look hX (P := R (xN a i) = some tyN ∧ pBl nB A R (b i)) ?_ (fun R' => pS_10 ho)
    rw [xa]
    by_cases g1 : M 32 ka = 0
    · rw [if_pos g1]
      by_cases g2 : pBl nB A R (b i)
      · rw [hz.1 g2, bi_some, dq_self, if_neg (by decide)]
        exact ⟨fun _ => bo_1, fun q => absurd ⟨a0.mp g1, g2⟩ q⟩
      · rw [hz.2 g2, bi_some, dq_self, if_pos rfl]
        exact ⟨fun q => absurd q.2 g2, fun _ => bo_0⟩
    · rw [if_neg g1]
      exact ⟨fun q => absurd (a0.mpr q.1) g1, fun _ => bo_0⟩
  · obtain ⟨ka, ha1, ha2, ha3⟩ := reg_at ha
    have xa : xN a i = ka := ha3
    have pa := hX.r1 ha1
    have k4 : kdI (R ka) = (4 : Int32) ↔ ∃ q1 q2 q3, R ka = some (ty_mk 4 q1 q2 q3) := kdI_is hT pa (k := 4) (by decide)
    rw [ho, if_neg (show ¬ (11 : Int32) = 0 by decide), if_neg (show ¬ (11 : Int32) = 1 by decide), if_neg (show ¬ (11 : Int32) = 2 by decide), if_neg (show ¬ (11 : Int32) = 3 by decide), if_neg (show ¬ (11 : Int32) = 4 by decide), if_neg (show ¬ (11 : Int32) = 5 by decide), if_neg (show ¬ (11 : Int32) = 6 by decide), if_neg (show ¬ (11 : Int32) = 7 by decide), if_neg (show ¬ (11 : Int32) = 8 by decide), if_neg (show ¬ (11 : Int32) = 9 by decide), if_neg (show ¬ (11 : Int32) = 10 by decide), if_pos rfl]
    simp only [k6 ha, ha3]
    rw [c_kd hT pa, bi_some, dq_self]
    unfold jK_isRight_405 jK_isRight_406
    simp only [dq_self]
    by_cases g1 : kdI (R ka) = 4
    · obtain ⟨q1, q2, q3, e⟩ := k4.mp g1
      rw [e] at pa
      have hz := c_go (D := [d0, d1, d2, p, d4]) hX pa
      rw [if_pos g1]
      refine cR_look hX (P := pFit R q1 q2 q3) ?_ (fun R' => (pS_11 ho).trans ⟨fun ⟨x, y, z, f1, f2, f3⟩ => ?_, fun ⟨f1, f2⟩ => ⟨q1, q2, q3, by rw [xa]; exact e, f1, f2⟩⟩)
      · by_cases g2 : pFit R q1 q2 q3
        · rw [hz.1 g2, bi_some, dq_self, if_neg (by decide)]
          exact ⟨fun _ => bo_1, fun q => absurd g2 q⟩
        · rw [hz.2 g2, bi_some, dq_self, if_pos rfl]
          exact ⟨fun q => absurd q g2, fun _ => bo_0⟩
      · rw [xa, e] at f1
        obtain ⟨-, rfl, rfl, rfl⟩ := ty_mk_inj (Option.some.inj f1)
        exact ⟨f2, f3⟩
    · rw [if_neg g1, bo_0]
      refine cR_no hX rfl (fun R' z => ?_)
      obtain ⟨x, y, zz, f1, -⟩ := (pS_11 ho).mp z
      rw [xa] at f1
      exact g1 (k4.mpr ⟨_, _, _, f1⟩)
  · have p2 := hX.is0 (hX.r1 (k := 2) (by decide))
    rw [ho, if_neg (show ¬ (12 : Int32) = 0 by decide), if_neg (show ¬ (12 : Int32) = 1 by decide), if_neg (show ¬ (12 : Int32) = 2 by decide), if_neg (show ¬ (12 : Int32) = 3 by decide), if_neg (show ¬ (12 : Int32) = 4 by decide), if_neg (show ¬ (12 : Int32) = 5 by decide), if_neg (show ¬ (12 : Int32) = 6 by decide), if_neg (show ¬ (12 : Int32) = 7 by decide), if_neg (show ¬ (12 : Int32) = 8 by decide), if_neg (show ¬ (12 : Int32) = 9 by decide), if_neg (show ¬ (12 : Int32) = 10 by decide), if_neg (show ¬ (12 : Int32) = 11 by decide), ck_of (i := 2) (n := 6) ⟨by decide, by decide⟩, show (2 : Int32).toNatClampNeg = 2 from rfl]
    unfold jK_isRight_421
    refine cR_look hX (P := R 2 = some tyN) ?_ (fun R' => pS_12 ho)
    by_cases g1 : M 32 2 = 0
    · rw [if_pos g1]
      exact ⟨fun _ => bo_1, fun q => absurd (p2.mp g1) q⟩
    · rw [if_neg g1]
      exact ⟨fun q => absurd (p2.mpr q) g1, fun _ => bo_0⟩
end
