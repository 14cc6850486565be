/-! compile: a block is opened, an environment extended -/
section
variable {p nE : Nat} {B Bm : sm_M} {L LM0 FR : List Ty} {k0 : Nat} {Ex PB : List Nat} {nC nB cur nV nD N : Nat} {LC LR : List Ty} {W : Nat → Ty} {A : Nat → Option Ty} {TE : Nat → Ty} {BD : Nat → List Ty} {Mc Mm Mc' Mm' M : sm_M} {D : sm_D} {a b c a' b' c' x x' y y' z z' : Int32} {ox oa ob oc o1 o2 o3 : Option Ty}
theorem u3_a {α : Type} {f : Nat → α} {n : Nat} {r s t : α} : u3 f n r s t (3 * n + 0) = r := if_pos rfl
theorem u3_b {α : Type} {f : Nat → α} {n : Nat} {r s t : α} : u3 f n r s t (3 * n + 1) = s := by unfold u3; rw [if_neg (by omega), if_pos rfl]
theorem u3_c {α : Type} {f : Nat → α} {n : Nat} {r s t : α} : u3 f n r s t (3 * n + 2) = t := by unfold u3; rw [if_neg (by omega), if_neg (by omega), if_pos rfl]
theorem u3_ne {f : Nat → Option Ty} {n k m : Nat} (h : m ≠ n) (hk : k < 3) : u3 f n oa ob oc (3 * m + k) = f (3 * m + k) := by
  unfold u3
  rw [if_neg (by omega), if_neg (by omega), if_neg (by omega)]
theorem w_open {n k0' : Nat} {Ex' PB' : List Nat} (hg : [p] ∈ gC) (hp : 40 ≤ p) (hS : wS p nE B Bm L LM0 FR k0 Ex PB nC nB cur nV nD LC LR W A TE BD Mc Mm) (hU : ∀ b, b ∈ Ex ++ PB ↔ b = n ∨ b ∈ Ex' ++ PB') (hN : n ∉ Ex' ++ PB') (hnd : (Ex' ++ PB').Nodup) (hk0 : k0 ≤ k0') (hlen : k0' + PB'.length = nD) (hpb : ∀ i b, PB'[i]? = some b → Mc 30 (k0' + i) = nI b) (ha : ty_pr LC a oa) (hb : ty_pr LC b ob) (hc : ty_pr LC c oc) (ha' : ty_pr LR a' oa) (hb' : ty_pr LR b' ob) (hc' : ty_pr LR c' oc) :
    ∃ (A' : Nat → Option Ty) (Mc' Mm' : sm_M), jC_open p (nI n) a b c D Mc = some (0, D, Mc') ∧ jR_beginBlock (nI n) a' b' c' [] Mm = some (0, [], Mm') ∧ wS p nE B Bm L LM0 FR k0' Ex' PB' nC nB n nV nD LC LR W A' TE BD Mc' Mm' ∧ Mm' 29 = Mm 29 ∧ (∀ q, 35 < q → Mm' q = Mm q) ∧ ∀ j, j ≠ 54 → Mm' 1 j = Mm 1 j := by
  obtain ⟨⟨n1, n2, n3, n4, n5, n6⟩, ⟨t1, t2, t3, t4, t5, t6, t7, t8, t9, t10⟩, ⟨c6, c11, c12, c15, c5, c9⟩, ⟨m39, m52, m54, m47, m50, m53⟩, hR, ⟨⟨k1, k2, k3, k4, k5⟩, hcu⟩, hE, hB, fc, fr⟩ := hS
  obtain ⟨nlt, n7, ncur⟩ := k2 n ((hU n).mpr (Or.inl rfl))
  have e1 := k_open (D := D) hg hp nlt n2 c11 t1 ha hb hc
  have e2 := r_beginB (D := []) (N := Mm) (x := a') (y := b') (z := c') (n := n) (by omega)
  have hbn : wBo p nC LC LR (u3 A n oa ob oc) (opC Mc p n (Mc p 6) a b c oa ob oc) (obM Mm n a' b' c') n := by
    refine ⟨⟨nC, 0, by omega, ?_, ?_, ?_, ?_⟩, fun k hk => ?_⟩
    · rw [opC_6, upd_at]; exact c6
    · rw [obM_33, upd_at]; exact m39
    · rw [opC_o (by omega) (by omega) (by omega) (by omega), n7]; rfl
    · rw [obM_34, upd_at]; rfl
    · rw [opC_8, opC_9, obM_35, upd_3, upd_3, upd_3]
      match k, hk with
      | 0, _ => rw [u3_a, u3_a, u3_a, u3_a]; exact ⟨ha, ha', rfl⟩
      | 1, _ => rw [u3_b, u3_b, u3_b, u3_b]; exact ⟨hb, hb', rfl⟩
      | 2, _ => rw [u3_c, u3_c, u3_c, u3_c]; exact ⟨hc, hc', rfl⟩
  have hbo : ∀ m, m ≠ n → wBo p nC LC LR A Mc Mm m → wBo p nC LC LR (u3 A n oa ob oc) (opC Mc p n (Mc p 6) a b c oa ob oc) (obM Mm n a' b' c') m := by
    intro m hm ⟨q1, q2⟩
    refine ⟨?_, fun k hk => ?_⟩
    · rw [opC_6, upd_ne hm, obM_33, upd_ne hm, opC_o (by omega) (by omega) (by omega) (by omega), obM_34, upd_ne hm]
      exact q1
    · rw [u3_ne hm hk, opC_8, opC_9, obM_35, upd_ne (by omega), upd_ne (by omega), upd_ne (by omega), upd_ne (by omega), upd_ne (by omega), upd_ne (by omega), upd_ne (by omega), upd_ne (by omega), upd_ne (by omega)]
      exact q2 k hk
  have o29 : obM Mm n a' b' c' 29 = Mm 29 := obM_o (by decide) (by decide)
  refine ⟨u3 A n oa ob oc, _, _, e1, e2, ⟨⟨n1, n2, nlt, n4, by rw [o29]; exact n5, n6⟩, ⟨tabC_o (fun q hq => opC_o (by omega) (by omega) (by omega) (by omega)) t1, t2, tabM_o (fun q q1 q2 => obM_o (by omega) (by omega)) (obM_1 (by decide)) t3, t4, by rw [o29]; exact t5, by rw [o29]; omega, t7, t8, t9, t10⟩, ⟨by rw [opC_p (by decide)]; exact c6, by rw [opC_p (by decide)]; exact c11, opC_12, by rw [opC_p (by decide)]; exact c15, by rw [opC_o (by omega) (by omega) (by omega) (by omega)]; exact c5, by rw [opC_o (by omega) (by omega) (by omega) (by omega)]; exact c9⟩, ⟨by rw [obM_1 (by decide)]; exact m39, by rw [obM_1 (by decide)]; exact m52, ?_, by rw [obM_1 (by decide)]; exact m47, by rw [obM_1 (by decide)]; exact m50, by rw [obM_1 (by decide)]; exact m53⟩, fun i hi => ?_, ⟨⟨fun m hm => ?_, fun m hm => ?_, hnd, hlen, fun i m hm => ?_⟩, hbn⟩, fun i hi => ?_, fun k hk => ?_, fc.of (fun q a b c => opC_o (by omega) (by omega) (by omega) (by omega)), fr.of (fun q hq => obM_o (by omega) (by omega)) (fun j a b c => obM_1 (by omega))⟩, o29, fun q hq => obM_o (by omega) (by omega), fun j hj => obM_1 hj⟩
  · unfold obM
    rw [up_ne (by decide), up_ne (by decide), up_ne (by decide), up_ne (by decide), up_ne (by decide), up_at]
  · have := hR i hi
    unfold wRow at this ⊢
    rw [opC_o (by omega) (by omega) (by omega) (by omega), opC_o (by omega) (by omega) (by omega) (by omega), opC_o (by omega) (by omega) (by omega) (by omega), opC_o (by omega) (by omega) (by omega) (by omega), opC_o (by omega) (by omega) (by omega) (by omega), o29, obM_o (q := 30) (by decide) (by decide), obM_o (q := 31) (by decide) (by decide), obM_o (q := 32) (by decide) (by decide)]
    exact this
  · by_cases e : m = n
    · subst e; exact Or.inl hbn
    · rcases k1 m hm with q | q
      · exact Or.inl (hbo m e q)
      · rcases (hU m).mp q with q | q
        · exact absurd q e
        · exact Or.inr q
  · obtain ⟨q1, q2, q3⟩ := k2 m ((hU m).mpr (Or.inr hm))
    refine ⟨q1, by rw [opC_o (by omega) (by omega) (by omega) (by omega)]; exact q2, fun e => hN (by rw [← e]; exact hm)⟩
  · rw [opC_o (q := 30) (by omega) (by omega) (by omega) (by omega)]
    exact hpb i m hm
  · have := hE i hi
    unfold wEv at this ⊢
    rw [opC_o (q := 25) (by omega) (by omega) (by omega) (by omega), opC_o (q := 26) (by omega) (by omega) (by omega) (by omega), opC_o (q := 27) (by omega) (by omega) (by omega) (by omega), obM_o (q := 40) (by decide) (by decide), obM_o (q := 41) (by decide) (by decide), obM_o (q := 42) (by decide) (by decide), obM_o (q := 43) (by decide) (by decide)]
    exact this
  · have := hB k hk
    unfold wBd at this ⊢
    rw [opC_o (q := 28) (by omega) (by omega) (by omega) (by omega), opC_o (q := 29) (by omega) (by omega) (by omega) (by omega), opC_o (q := 30) (by omega) (by omega) (by omega) (by omega), obM_o (q := 44) (by decide) (by decide), obM_o (q := 45) (by decide) (by decide), obM_o (q := 46) (by decide) (by decide)]
    exact this
/-- both sides extend the environment v -/
theorem w_ext {d0 d1 d2 d3 v bn : Nat} {u : Ty} (hp : 40 ≤ p) (hS : wS p nE B Bm L LM0 FR k0 Ex PB nC nB cur nV nD LC LR W A TE BD Mc Mm) (hv : v < nV) (h51 : Mm 1 51 = nI v) (hx : ty_pr LC x (some u)) (hx' : ty_pr LR x' (some u)) (hbn : bn = 0 ∨ bn = 1) (s1 : LC.length + cU LC FR + 1 ≤ L.length + FR.length + ct4 (Mm 29) nC) (s2 : LR.length + 1 ≤ LM0.length + ct4 (Mm 29) nC + k0) (s3 : nV ≤ ct4 (Mm 29) nC) (hcap : L.length + FR.length + 300 < 800 ∧ LM0.length + 300 + k0 < 3000) :
    ∃ (KC KR : List Ty) (Mc' Mm' : sm_M), jW_extend d0 d1 d2 d3 p (nI v) x (nI bn) Mc = some (nI nV, [d0, d1, d2, d3, p], Mc') ∧ jR_grow x' (nI bn) [] Mm = some (0, [], Mm') ∧ wS p nE B Bm L LM0 FR k0 Ex PB nC nB cur (nV + 1) nD (LC ++ KC) (LR ++ KR) W A (fun i => if i = nV then tyP (TE v) u else TE i) (fun i => if i = nV then (if bn = 1 then u :: BD v else BD v) else BD i) Mc' Mm' ∧ Mm' 1 51 = nI nV ∧ Mm' 29 = Mm 29 ∧ (∀ q, 6 < q → (q < 40 ∨ 43 < q) → Mm' q = Mm q) ∧ (∀ j, j ≠ 1 → j ≠ 50 → j ≠ 51 → Mm' 1 j = Mm 1 j) ∧ (LC ++ KC).length ≤ LC.length + 1 ∧ Mm' 40 nV = nI v ∧ Mm' 41 nV = x' ∧ ∀ i, i < nV → Mm' 40 i = Mm 40 i := by
  have hnC := hS.1.1
  have hct := ct4_le (o := Mm 29) nC
  obtain ⟨q1, q2, -⟩ := hS.2.2.2.2.2.2.1 v hv
  have m50 := hS.2.2.2.1.2.2.2.2.1
  -- the reference writes three rows, then looks the type up
  have oY : ∀ q, q ≠ 40 → q ≠ 41 → q ≠ 43 → sm_up (sm_up (sm_up Mm 40 nV (nI v)) 41 nV x') 43 nV (nI bn) q = Mm q := fun q a b c => by rw [up_ne c, up_ne b, up_ne a]
  have hSY : wS p nE B Bm L LM0 FR k0 Ex PB nC nB cur nV nD LC LR W A TE BD Mc (sm_up (sm_up (sm_up Mm 40 nV (nI v)) 41 nV x') 43 nV (nI bn)) := by
    obtain ⟨⟨n1, n2, n3, n4, n5, n6⟩, ⟨t1, t2, t3, t4, t5, t6, t7, t8, t9, t10⟩, hc, ⟨m39, m52, m54, m47, m50, m53⟩, hR, ⟨⟨k1, k2, k3, k4, k5⟩, hcu⟩, hE, hB, fc, fr⟩ := hS
    have y1 := oY 1 (by decide) (by decide) (by decide)
    have y29 := oY 29 (by decide) (by decide) (by decide)
    have hbo : ∀ b, wBo p nC LC LR A Mc Mm b → wBo p nC LC LR A Mc (sm_up (sm_up (sm_up Mm 40 nV (nI v)) 41 nV x') 43 nV (nI bn)) b := by
      intro b h
      unfold wBo at h ⊢
      rw [oY 33 (by decide) (by decide) (by decide), oY 34 (by decide) (by decide) (by decide), oY 35 (by decide) (by decide) (by decide)]
      exact h
    refine ⟨⟨n1, n2, n3, n4, by rw [y29]; exact n5, n6⟩, ⟨t1, t2, tabM_o (fun q a b => oY q (by omega) (by omega) (by omega)) (by rw [y1]) t3, t4, by rw [y29]; exact t5, by rw [y29]; exact t6, t7, t8, t9, t10⟩, hc, by rw [y1]; exact ⟨m39, m52, m54, m47, m50, m53⟩, fun i hi => ?_, ⟨⟨fun b hb => (k1 b hb).elim (fun q => Or.inl (hbo b q)) Or.inr, k2, k3, k4, k5⟩, hbo cur hcu⟩, fun i hi => ?_, fun k hk => ?_, fc, fr.of (fun q hq => oY q (by omega) (by omega) (by omega)) (fun j _ _ _ => by rw [y1])⟩
    · have := hR i hi
      unfold wRow at this ⊢
      rw [y29, oY 30 (by decide) (by decide) (by decide), oY 31 (by decide) (by decide) (by decide), oY 32 (by decide) (by decide) (by decide)]
      exact this
    · have := hE i hi
      have ne : i ≠ nV := by omega
      unfold wEv at this ⊢
      rw [oY 42 (by decide) (by decide) (by decide), up_as ne, up_ne (show (40 : Nat) ≠ 43 by decide), up_ne (show (40 : Nat) ≠ 41 by decide), up_as ne, up_ne (show (43 : Nat) ≠ 41 by decide), up_ne (show (43 : Nat) ≠ 40 by decide), up_ne (show (41 : Nat) ≠ 43 by decide), up_as ne, up_ne (show (41 : Nat) ≠ 40 by decide)]
      exact this
    · have := hB k hk
      unfold wBd at this ⊢
      rw [oY 44 (by decide) (by decide) (by decide), oY 45 (by decide) (by decide) (by decide), oY 46 (by decide) (by decide) (by decide)]
      exact this
  have y42 := oY 42 (by decide) (by decide) (by decide)
  have y29 := oY 29 (by decide) (by decide) (by decide)
  have y1 := oY 1 (by decide) (by decide) (by decide)
  obtain ⟨w, w', KC, KR, Mc2, Mm2, f1, f2, f3, f4, f5, f6, f7, f8, f9⟩ := w_find (D := [d0, d1, d2, d3, p]) (n := 1) (z := -1) (z' := -1) (o3 := none) hp hSY (by decide) (by decide) (Or.inr (Or.inl ⟨TE v, u, rfl⟩)) q1 hx (Or.inl ⟨rfl, rfl⟩) q2 hx' (Or.inl ⟨rfl, rfl⟩) (Or.inl (by rw [y29]; exact s1)) (by rw [y29]; exact s2) hcap
  have f1' : jT_find 1 (Mc 25 v) x (-1) [d0, d1, d2, d3, p] Mc = some (w, [d0, d1, d2, d3, p], Mc2) := f1
  have f2' : jR_find 1 (Mm 42 v) x' (-1) [] (sm_up (sm_up (sm_up Mm 40 nV (nI v)) 41 nV x') 43 nV (nI bn)) = some (w', [], Mm2) := f2
  have hbo2 : sm_bo (nI bn) (some (0 : Nat)) = some 0 := by rcases hbn with rfl | rfl <;> rfl
  have hb2 : ∀ {ρ : Type} {q : Option ρ}, sm_bo (nI bn) q = q := by
    intro ρ q
    rcases hbn with rfl | rfl
    · exact bo_0
    · exact bo_1
  have oc : ∀ q, q ≠ 24 → q ≠ 25 → q ≠ 26 → q ≠ 27 → sm_up (sm_up (sm_up (sm_up Mc2 25 nV w) 26 nV (nI v)) 27 nV (nI bn)) 24 5 (nI (nV + 1)) q = Mc2 q := fun q a b c d => by rw [up_ne a, up_ne d, up_ne c, up_ne b]
  have om : ∀ q, q ≠ 1 → q ≠ 42 → sm_up (sm_up (sm_up Mm2 42 nV w') 1 51 (nI nV)) 1 50 (nI (nV + 1)) q = Mm2 q := fun q a b => by rw [up_ne a, up_ne a, up_ne b]
  have om1 : ∀ j, j ≠ 50 → j ≠ 51 → sm_up (sm_up (sm_up Mm2 42 nV w') 1 51 (nI nV)) 1 50 (nI (nV + 1)) 1 j = Mm2 1 j := fun j a b => by rw [up_as a, up_as b, up_ne (by decide)]
  have kv : ∀ {ρ : Type} {q : Option ρ}, sm_ck (nI v) 301 q = q := ck_nI (by omega) (by decide)
  have kV : ∀ {ρ : Type} {q : Option ρ}, sm_ck (nI nV) 301 q = q := ck_nI (by omega) (by decide)
  have cv : (nI v).toNatClampNeg = v := nI_clamp (by omega)
  have cV : (nI nV).toNatClampNeg = nV := nI_clamp (by omega)
  have kv2 : ∀ {ρ : Type} {q : Option ρ}, sm_ck (nI v) 1200 q = q := ck_nI (by omega) (by decide)
  have kV2 : ∀ {ρ : Type} {q : Option ρ}, sm_ck (nI nV) 1200 q = q := ck_nI (by omega) (by decide)
  have n301 : ¬ nI nV = (301 : Int32) := fun q => by
    have := nI_inj (by omega) (by decide) (show nI nV = nI 301 from q)
    omega
  have z5 : Mc2 24 5 = nI nV := by rw [f6 24 (by decide)]; exact hS.2.2.1.2.2.2.2.1
  have z50 : Mm2 1 50 = nI nV := by rw [f8 50 (by decide), y1]; exact m50
  refine ⟨KC, KR, sm_up (sm_up (sm_up (sm_up Mc2 25 nV w) 26 nV (nI v)) 27 nV (nI bn)) 24 5 (nI (nV + 1)), sm_up (sm_up (sm_up Mm2 42 nV w') 1 51 (nI nV)) 1 50 (nI (nV + 1)), ?_, ?_, ?_, ?_, ?_, fun q a b => ?_, fun j a b c => ?_, f9, ?_, ?_, fun i hi => ?_⟩
  · unfold jW_extend
    simp only [sm_wr]
    rw [hS.2.2.1.2.2.2.1, if_pos rfl, hS.2.2.1.2.2.2.2.1, if_neg n301, kv, cv, f1', bi_some, dq_self, kV, cV, up_ne (show (24 : Nat) ≠ 25 by decide), z5, kV, cV, up_ne (show (24 : Nat) ≠ 26 by decide), up_ne (show (24 : Nat) ≠ 25 by decide), z5, kV, cV, hb2, up_ne (show (24 : Nat) ≠ 27 by decide), up_ne (show (24 : Nat) ≠ 26 by decide), up_ne (show (24 : Nat) ≠ 25 by decide), z5, up_at, nI_1, nI_pred]
  · unfold jR_grow
    simp only [sm_wr]
    rw [m50, kV2, cV, h51, up_ne (show (1 : Nat) ≠ 40 by decide), m50, kV2, cV, up_ne (show (1 : Nat) ≠ 41 by decide), up_ne (show (1 : Nat) ≠ 40 by decide), m50, kV2, cV, hb2, y1, h51, kv2, cv, y42, f2', bi_some, dq_self, m50, kV2, cV, up_ne (show (1 : Nat) ≠ 42 by decide), z50, up_as (show (50 : Nat) ≠ 51 by decide), up_ne (show (1 : Nat) ≠ 42 by decide), z50, nI_1]
  · obtain ⟨⟨n1, n2, n3, n4, n5, n6⟩, ⟨t1, t2, t3, t4, t5, t6, t7, t8, t9, t10⟩, ⟨c6, c11, c12, c15, c5, c9⟩, ⟨m39, m52, m54, m47, m50', m53⟩, hR, ⟨⟨k1, k2, k3, k4, k5⟩, hcu⟩, hE, hB, fc, fr⟩ := f5
    have hbo : ∀ b, wBo p nC (LC ++ KC) (LR ++ KR) A Mc2 Mm2 b → wBo p nC (LC ++ KC) (LR ++ KR) A (sm_up (sm_up (sm_up (sm_up Mc2 25 nV w) 26 nV (nI v)) 27 nV (nI bn)) 24 5 (nI (nV + 1))) (sm_up (sm_up (sm_up Mm2 42 nV w') 1 51 (nI nV)) 1 50 (nI (nV + 1))) b := by
      intro b h
      unfold wBo at h ⊢
      rw [oc (p + 6) (by omega) (by omega) (by omega) (by omega), oc (p + 7) (by omega) (by omega) (by omega) (by omega), oc (p + 8) (by omega) (by omega) (by omega) (by omega), oc (p + 9) (by omega) (by omega) (by omega) (by omega), om 33 (by decide) (by decide), om 34 (by decide) (by decide), om 35 (by decide) (by decide)]
      exact h
    have o29 := om 29 (by decide) (by decide)
    have m29 : Mm2 29 = Mm 29 := by rw [f7 29 (by decide), y29]
    refine ⟨⟨n1, n2, n3, by omega, by rw [o29, m29]; omega, n6⟩, ⟨tabC_o (fun q hq => oc q (by omega) (by omega) (by omega) (by omega)) t1, t2, tabM_o (fun q a b => om q (by omega) (by omega)) (om1 1 (by decide) (by decide)) t3, t4, by rw [o29]; exact t5, by rw [o29]; exact t6, t7, t8, t9, t10⟩, ⟨by rw [oc p (by omega) (by omega) (by omega) (by omega)]; exact c6, by rw [oc p (by omega) (by omega) (by omega) (by omega)]; exact c11, by rw [oc p (by omega) (by omega) (by omega) (by omega)]; exact c12, by rw [oc p (by omega) (by omega) (by omega) (by omega)]; exact c15, up_at, by rw [up_as (by decide), up_ne (by decide), up_ne (by decide), up_ne (by decide)]; exact c9⟩, ⟨by rw [om1 39 (by decide) (by decide)]; exact m39, by rw [om1 52 (by decide) (by decide)]; exact m52, by rw [om1 54 (by decide) (by decide)]; exact m54, by rw [om1 47 (by decide) (by decide)]; exact m47, up_at, by rw [om1 53 (by decide) (by decide)]; exact m53⟩, fun i hi => ?_, ⟨⟨fun b hb => (k1 b hb).elim (fun q => Or.inl (hbo b q)) Or.inr, fun b hb => by rw [oc (p + 7) (by omega) (by omega) (by omega) (by omega)]; exact k2 b hb, k3, k4, fun i b hb => by rw [oc 30 (by decide) (by decide) (by decide) (by decide)]; exact k5 i b hb⟩, hbo cur hcu⟩, fun i hi => ?_, fun k hk => ?_, fc.of (fun q a b c => oc q (by omega) (by omega) (by omega) (by omega)), fr.of (fun q hq => om q (by omega) (by omega)) (fun j a b c => om1 j (by omega) (by omega))⟩
    · have := hR i hi
      unfold wRow at this ⊢
      rw [oc (p + 1) (by omega) (by omega) (by omega) (by omega), oc (p + 2) (by omega) (by omega) (by omega) (by omega), oc (p + 3) (by omega) (by omega) (by omega) (by omega), oc (p + 4) (by omega) (by omega) (by omega) (by omega), oc (p + 5) (by omega) (by omega) (by omega) (by omega), o29, om 30 (by decide) (by decide), om 31 (by decide) (by decide), om 32 (by decide) (by decide)]
      exact this
    · have a25 : sm_up (sm_up (sm_up (sm_up Mc2 25 nV w) 26 nV (nI v)) 27 nV (nI bn)) 24 5 (nI (nV + 1)) 25 = upd (Mc2 25) nV w := by rw [up_ne (by decide), up_ne (by decide), up_ne (by decide), sm_up_same]
      have a26 : sm_up (sm_up (sm_up (sm_up Mc2 25 nV w) 26 nV (nI v)) 27 nV (nI bn)) 24 5 (nI (nV + 1)) 26 = upd (Mc2 26) nV (nI v) := by rw [up_ne (by decide), up_ne (by decide), sm_up_same, up_ne (by decide)]
      have a27 : sm_up (sm_up (sm_up (sm_up Mc2 25 nV w) 26 nV (nI v)) 27 nV (nI bn)) 24 5 (nI (nV + 1)) 27 = upd (Mc2 27) nV (nI bn) := by rw [up_ne (by decide), sm_up_same, up_ne (by decide), up_ne (by decide)]
      have a42 : sm_up (sm_up (sm_up Mm2 42 nV w') 1 51 (nI nV)) 1 50 (nI (nV + 1)) 42 = upd (Mm2 42) nV w' := by rw [up_ne (by decide), up_ne (by decide), sm_up_same]
      unfold wEv
      rw [a25, a26, a27, a42, om 40 (by decide) (by decide), om 41 (by decide) (by decide), om 43 (by decide) (by decide)]
      by_cases e : i = nV
      · subst e
        have y40 : Mm2 40 i = nI v := by rw [f7 40 (by decide), up_ne (by decide), up_ne (by decide), up_at]
        have y41 : Mm2 41 i = x' := by rw [f7 41 (by decide), up_ne (by decide), up_at]
        have y43 : Mm2 43 i = nI bn := by rw [f7 43 (by decide), up_at]
        have vi : v ≠ i := by omega
        simp only [if_pos, upd_at, y40, y41, y43, if_neg vi]
        refine ⟨f3, f4, Or.inr ⟨v, u, hv, rfl, rfl, ?_, hx'.grow, ?_⟩⟩
        · rw [if_neg vi]
        · rw [if_neg vi]
          rcases hbn with rfl | rfl
          · exact Or.inr ⟨rfl, rfl, if_neg (by decide)⟩
          · exact Or.inl ⟨rfl, rfl, if_pos rfl⟩
      · obtain ⟨r1, r2, r3⟩ := hE i (by omega)
        simp only [if_neg e, upd_ne e]
        refine ⟨r1, r2, ?_⟩
        rcases r3 with r3 | ⟨j, u', z1, z2, z3, z4, z5', z6⟩
        · exact Or.inl r3
        · have ej : j ≠ nV := by omega
          exact Or.inr ⟨j, u', z1, z2, z3, by rw [if_neg ej]; exact z4, z5', by rw [if_neg ej]; exact z6⟩
    · obtain ⟨e, v', b, tt, m, ta, tb, q1, q2, q3, r1, r2, r3, r4, r5, r6, r7, r8, r9, r10⟩ := hB k hk
      refine ⟨e, v', b, tt, m, ta, tb, q1, by omega, q3, ?_, ?_, ?_, ?_, ?_, ?_, r7, r8, r9, ?_⟩
      · rw [oc 28 (by decide) (by decide) (by decide) (by decide)]; exact r1
      · rw [om 44 (by decide) (by decide)]; exact r2
      · rw [oc 29 (by decide) (by decide) (by decide) (by decide)]; exact r3
      · rw [om 45 (by decide) (by decide)]; exact r4
      · rw [oc 30 (by decide) (by decide) (by decide) (by decide)]; exact r5
      · rw [om 46 (by decide) (by decide)]; exact r6
      · simp only [if_neg (show v' ≠ nV by omega)]
        exact r10
  · rw [up_as (by decide), up_at]
  · rw [om 29 (by decide) (by decide), f7 29 (by decide), y29]
  · rw [om q (by omega) (by omega), f7 q a, oY q (by omega) (by omega) (by omega)]
  · rw [om1 j b c, f8 j a, y1]
  · rw [om 40 (by decide) (by decide), f7 40 (by decide), up_ne (by decide), up_ne (by decide), up_at]
  · rw [om 41 (by decide) (by decide), f7 41 (by decide), up_ne (by decide), up_at]
  · rw [om 40 (by decide) (by decide), f7 40 (by decide), up_ne (by decide), up_ne (by decide), up_as (by omega)]
end
