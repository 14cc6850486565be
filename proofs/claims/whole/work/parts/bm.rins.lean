/-! the check, the reference's side: instructions -/
section
variable {Bm M : sm_M} {LM0 LR : List Ty} {h i N nB nC n : Nat} {W : Nat → Ty} {A : Nat → Option Ty} {R : Nat → Option Ty} {D : sm_D} {x y z l2 l3 l4 : Int32} {o1 o2 o3 q1 q2 q3 q4 : Option Ty} {t : Ty}
theorem r_code (hX : rX Bm LM0 h i N LR R M) (h1 : ty_pr LR x q1) (h2 : ty_pr LR l2 q2) (h3 : ty_pr LR l3 q3) (h4 : ty_pr LR l4 q4) : rz (q1 = some (ty_mk 4 q2 q3 q4)) (jR_isCode x l2 l3 l4 [] M) [] M := by
  unfold jR_isCode jR_isCode_49 jR_isCode_50
  rw [bo_0, bo_1]
  have nd := hX.1.1.2.2.1
  cases q1 with
  | none =>
    rw [if_pos ((ty_pr.neg hX.lt h1).mpr rfl)]
    exact ⟨fun q => (by cases q), fun _ => rfl⟩
  | some t =>
    obtain ⟨j, rfl, hj3, hn, cj, kj, hj, hk⟩ := r_at hX.1.1 h1
    have k4 : M 2 j = (4 : Int32) ↔ ∃ a1 a2 a3, t = ty_mk 4 a1 a2 a3 := hk 4 (by decide)
    rw [if_neg hn, kj, kj, kj, kj, cj]
    by_cases g4 : M 2 j = 4
    · obtain ⟨a1, a2, a3, rfl⟩ := k4.mp g4
      obtain ⟨-, -, e1, e2, e3⟩ := hX.1.1.row hj
      have f1 := ty_pr.eq hX.lt nd e1 h2
      have f2 := ty_pr.eq hX.lt nd e2 h3
      have f3 := ty_pr.eq hX.lt nd e3 h4
      rw [if_pos g4]
      by_cases g1 : M 3 j = l2
      · by_cases g2 : M 4 j = l3
        · by_cases g3 : M 5 j = l4
          · rw [if_pos g1, if_pos g2, if_pos g3]
            exact ⟨fun _ => rfl, fun q => absurd (by rw [f1.mp g1, f2.mp g2, f3.mp g3]) q⟩
          · rw [if_pos g1, if_pos g2, if_neg g3]
            exact ⟨fun q => absurd (f3.mpr (ty_mk_inj (Option.some.inj q)).2.2.2) g3, fun _ => rfl⟩
        · rw [if_pos g1, if_neg g2]
          exact ⟨fun q => absurd (f2.mpr (ty_mk_inj (Option.some.inj q)).2.2.1) g2, fun _ => rfl⟩
      · rw [if_neg g1]
        exact ⟨fun q => absurd (f1.mpr (ty_mk_inj (Option.some.inj q)).2.1) g1, fun _ => rfl⟩
    · rw [if_neg g4]
      exact ⟨fun q => absurd (k4.mpr ⟨_, _, _, Option.some.inj q⟩) g4, fun _ => rfl⟩
theorem r_wrap {w : Ty} (hX : rX Bm LM0 h i N LR R M) (hN : N < 3000) (hw : wOk w) (h1 : ty_pr LR x o1) (h2 : ty_pr LR y (some w)) : ∃ (r : Int32) (K : List Ty) (M' : sm_M), jR_wraps x y [] M = some (r, [], M') ∧ rX Bm LM0 h i (N + 1) (LR ++ K) R M' ∧ ((r = 1 ∧ ∃ q q3, o1 = some (ty_mk 1 (some (ty_mk 4 q (ty_p1 w) (wR w))) q q3)) ∨ (r = 0 ∧ ¬ ∃ q q3, o1 = some (ty_mk 1 (some (ty_mk 4 q (ty_p1 w) (wR w))) q q3))) := by
  have hno : ∀ {j : Option sm_S}, j = some (0, [], M) → (¬ ∃ q q3, o1 = some (ty_mk 1 (some (ty_mk 4 q (ty_p1 w) (wR w))) q q3)) → ∃ (r : Int32) (K : List Ty) (M' : sm_M), j = some (r, [], M') ∧ rX Bm LM0 h i (N + 1) (LR ++ K) R M' ∧ ((r = 1 ∧ ∃ q q3, o1 = some (ty_mk 1 (some (ty_mk 4 q (ty_p1 w) (wR w))) q q3)) ∨ (r = 0 ∧ ¬ ∃ q q3, o1 = some (ty_mk 1 (some (ty_mk 4 q (ty_p1 w) (wR w))) q q3))) := fun hj hq => ⟨0, [], M, hj, by rw [List.append_nil]; exact hX.mono (by omega), Or.inr ⟨rfl, hq⟩⟩
  unfold jR_wraps jR_wraps_14 jR_wraps_87
  rw [bo_0]
  cases o1 with
  | none =>
    rw [if_pos ((ty_pr.neg hX.lt h1).mpr rfl)]
    exact hno rfl (fun ⟨_, _, q⟩ => by cases q)
  | some t =>
    obtain ⟨j, rfl, hj3, hn, cj, kj, hj, hk⟩ := r_at hX.1.1 h1
    obtain ⟨m, rfl, hm3, hmn, cm, km, hm, hmk⟩ := r_at hX.1.1 h2
    have k1 : M 2 j = (1 : Int32) ↔ ∃ a1 a2 a3, t = ty_mk 1 a1 a2 a3 := hk 1 (by decide)
    have m2 : M 2 m = (2 : Int32) ↔ ∃ a1 a2 a3, w = ty_mk 2 a1 a2 a3 := hmk 2 (by decide)
    rw [if_neg hn, kj, kj, kj, kj, kj, km, km, km, km, cj, cm]
    by_cases g1 : M 2 j = 1
    · obtain ⟨a1, a2, a3, rfl⟩ := k1.mp g1
      obtain ⟨-, -, e1, e2, e3⟩ := hX.1.1.row hj
      rw [if_pos g1]
      have hq : (∃ q q3', some (ty_mk 1 a1 a2 a3) = some (ty_mk 1 (some (ty_mk 4 q (ty_p1 w) (wR w))) q q3')) ↔ a1 = some (ty_mk 4 a2 (ty_p1 w) (wR w)) := by
        constructor
        · rintro ⟨q, q3', e⟩
          obtain ⟨-, b1, b2, -⟩ := ty_mk_inj (Option.some.inj e)
          rw [b1, b2]
        · intro e
          exact ⟨a2, a3, by rw [e]⟩
      rcases hw with ⟨ta, tb, rfl⟩ | ⟨ta, rfl⟩
      · obtain ⟨-, -, f1, f2, f3⟩ := hX.1.1.row hm
        rw [if_pos (m2.mpr ⟨_, _, _, rfl⟩)]
        obtain ⟨v, K, M', c1, c2, c3⟩ := r_fd (D := []) (n := 3) (y := -1) (z := -1) (o2 := none) (o3 := none) hX (by decide) f2 (Or.inl ⟨rfl, rfl⟩) (Or.inl ⟨rfl, rfl⟩) hN
        have c1' : jR_find 3 (M 4 m) (-1) (-1) [] M = some (v, [], M') := c1
        have hz := r_code c3 e1.grow e2.grow f1.grow c2
        rw [c1', bi_some, dq_self]
        by_cases g : a1 = some (ty_mk 4 a2 (some ta) (some (tyR tb)))
        · rw [hz.1 g, bi_some, dq_self, bo_1]
          exact ⟨1, K, M', rfl, c3, Or.inl ⟨rfl, hq.mpr g⟩⟩
        · rw [hz.2 g, bi_some, dq_self, bo_0]
          exact ⟨0, K, M', rfl, c3, Or.inr ⟨rfl, fun q => g (hq.mp q)⟩⟩
      · obtain ⟨-, -, f1, f2, f3⟩ := hX.1.1.row hm
        rw [if_neg (fun q => by obtain ⟨_, _, _, e⟩ := m2.mp q; exact absurd (ty_mk_inj e).1 (by decide))]
        have hz := r_code (l4 := -1) (q4 := none) hX e1 e2 f1 (Or.inl ⟨rfl, rfl⟩)
        by_cases g : a1 = some (ty_mk 4 a2 (some ta) none)
        · rw [hz.1 g, bi_some, dq_self, bo_1]
          exact ⟨1, [], M, rfl, by rw [List.append_nil]; exact hX.mono (by omega), Or.inl ⟨rfl, hq.mpr g⟩⟩
        · rw [hz.2 g, bi_some, dq_self, bo_0]
          exact hno rfl (fun q => g (hq.mp q))
    · rw [if_neg g1]
      exact hno rfl (fun ⟨_, _, e⟩ => g1 (k1.mpr ⟨_, _, _, Option.some.inj e⟩))
theorem r_93 {K : List Ty} {N1 : Nat} {xh xs x1 : Int32} {qs : Option Ty} {ka kb : Nat} (hi : i < 300) (hka : 1 ≤ ka ∧ ka ≤ 5) (hkb : 1 ≤ kb ∧ kb ≤ 5) (hb : Bm 31 i = nI kb) (hX : rX Bm LM0 h (i + 1) N1 (LR ++ K) R M) (hN1 : N1 < 3000) (hh : ty_pr (LR ++ K) xh (some (ty_hid (h + i)))) (hs : ty_pr (LR ++ K) xs qs) (h1 : ty_pr (LR ++ K) x1 q1) : ∃ LR' M', jR_opens_93 (nI i) xh (nI ka) 4 xh x1 xs [] M = some (1, [], M') ∧ rX Bm LM0 h (i + 1) (N1 + 1) LR' (rg (rg R ka (some (ty_mk 4 (some (ty_hid (h + i))) q1 qs))) kb (some (ty_hid (h + i)))) M' := by
  obtain ⟨w, K2, M2, e1, e2, e3⟩ := r_fd (D := []) (n := 4) hX (by decide) hh h1 hs hN1
  have e1' : jR_find 4 xh x1 xs [] M = some (w, [], M2) := e1
  refine ⟨LR ++ K ++ K2, sm_up (sm_up M2 53 ka w) 53 kb xh, ?_, (e3.rgs e2).rgs hh.grow⟩
  have m31 : sm_up M2 53 ka w 31 i = nI kb := by rw [up_ne (by decide), e3.1.2.2.1 31 (by decide) (by decide)]; exact hb
  unfold jR_opens_93
  simp only [sm_wr]
  rw [e1', bi_some, dq_self, ck_nI (by omega) (by decide), nI_clamp (by omega), ck_nI (by omega) (by decide), nI_clamp (by omega), m31, ck_nI (by omega) (by decide), nI_clamp (by omega), bo_1]
theorem r_open (hX : rX Bm LM0 h i N LR R M) (hi : i < 300) (hN : N + 3 ≤ 3000) (ho : Bm 29 i = 8) (ha : reg5 (Bm 30 i)) (hb : reg5 (Bm 31 i)) (hc : reg5 (Bm 32 i)) : rR Bm LM0 h i N nB W A R (jR_opens (nI i) [] M) := by
  obtain ⟨ka, ha1, ha2, ha3⟩ := reg_at ha
  obtain ⟨kb, hb1, hb2, hb3⟩ := reg_at hb
  obtain ⟨kc, hc1, hc2, hc3⟩ := reg_at hc
  have xa : xN (Bm 30) i = ka := ha3
  have xb : xN (Bm 31) i = kb := hb3
  have xc : xN (Bm 32) i = kc := hc3
  have hr := hX.r1 hc1
  have m32 : M 32 i = nI kc := by rw [hX.1.2.2.1 32 (by decide) (by decide)]; exact hc2
  have ki : ∀ {ρ : Type} {q : Option ρ}, sm_ck (nI i) 301 q = q := ck_nI (by omega) (by decide)
  have ci : (nI i).toNatClampNeg = i := nI_clamp (by omega)
  obtain ⟨Mh, jh, hXh⟩ := r_hid (D := []) hX (by omega)
  have hhid : ty_pr (LR ++ [ty_hid (h + i)]) (nI LR.length) (some (ty_hid (h + i))) := Or.inr ⟨LR.length, _, rfl, by rw [List.getElem?_append_right (Nat.le_refl _), Nat.sub_self]; rfl, rfl⟩
  have m30 : Mh 30 i = nI ka := by rw [hXh.1.2.2.1 30 (by decide) (by decide)]; exact ha2
  unfold jR_opens jR_opens_36
  rw [ki, ci, m32, ck_nI (by omega) (by decide), nI_clamp (by omega), bo_0]
  cases hRc : R kc with
  | none =>
    rw [hRc] at hr
    rw [if_pos ((ty_pr.neg hX.lt hr).mpr rfl)]
    refine rR_no hX rfl (fun R' q => ?_)
    obtain ⟨k, q1, q2, q3, e, -⟩ := (pS_8 ho).mp q
    rw [xc, hRc] at e
    cases e
  | some t =>
    rw [hRc] at hr
    obtain ⟨j, ej, hj3, hn, cj, kj, hj, hk⟩ := r_at hX.1.1 hr
    have k2 : M 2 j = (2 : Int32) ↔ ∃ a1 a2 a3, t = ty_mk 2 a1 a2 a3 := hk 2 (by decide)
    have k3 : M 2 j = (3 : Int32) ↔ ∃ a1 a2 a3, t = ty_mk 3 a1 a2 a3 := hk 3 (by decide)
    obtain ⟨j', ej', -, -, cj', kj', hj', hk'⟩ := r_at hXh.1.1 (hr.grow (K := [ty_hid (h + i)]))
    have ejj : j' = j := nI_inj (by have := (List.getElem?_eq_some_iff.mp hj').1; have := hXh.1.1.1; omega) (by omega) (ej'.symm.trans ej)
    subst ejj
    have k2' : Mh 2 j' = (2 : Int32) ↔ ∃ a1 a2 a3, t = ty_mk 2 a1 a2 a3 := hk' 2 (by decide)
    rw [if_neg hn, kj, kj, cj]
    by_cases g2 : M 2 j' = 2
    · obtain ⟨a1, a2, a3, rfl⟩ := k2.mp g2
      obtain ⟨-, -, e1, e2, e3⟩ := hXh.1.1.row hj'
      obtain ⟨w, K2, M2, f1, f2, f3⟩ := r_fd (D := []) (n := 3) (y := -1) (z := -1) (o2 := none) (o3 := none) hXh (by decide) e2 (Or.inl ⟨rfl, rfl⟩) (Or.inl ⟨rfl, rfl⟩) (by omega)
      have f1' : jR_find 3 (Mh 4 j') (-1) (-1) [] Mh = some (w, [], M2) := f1
      rw [List.append_assoc] at f2 f3
      obtain ⟨LR', M', j1, j2⟩ := r_93 (LR := LR) (K := [ty_hid (h + i)] ++ K2) hi ha1 hb1 hb2 f3 (by omega) (by rw [← List.append_assoc]; exact hhid.grow) f2 (by rw [← List.append_assoc]; exact e1.grow)
      rw [if_pos g2]
      unfold jR_opens_38
      rw [jh, bi_some, dq_self, ki, kj, kj, kj, cj, if_pos (k2'.mpr ⟨_, _, _, rfl⟩), f1', bi_some, dq_self, ci, m30, j1]
      refine Or.inl ⟨_, LR', M', rfl, (pS_8 ho).mpr ⟨2, a1, a2, a3, by rw [xc]; exact hRc, Or.inl rfl, ?_⟩, j2⟩
      rw [xa, xb, if_pos rfl]
    · rw [if_neg g2]
      by_cases g3 : M 2 j' = 3
      · obtain ⟨a1, a2, a3, rfl⟩ := k3.mp g3
        obtain ⟨-, -, e1, e2, e3⟩ := hXh.1.1.row hj'
        obtain ⟨LR', M', j1, j2⟩ := r_93 (LR := LR) (K := [ty_hid (h + i)]) (xs := -1) (qs := none) hi ha1 hb1 hb2 hXh (by omega) hhid (Or.inl ⟨rfl, rfl⟩) e1
        rw [if_pos g3]
        unfold jR_opens_38
        rw [jh, bi_some, dq_self, ki, kj, kj, cj, if_neg (fun q => by obtain ⟨_, _, _, e⟩ := k2'.mp q; exact absurd (ty_mk_inj e).1 (by decide)), ci, m30, j1]
        refine Or.inl ⟨_, LR', M', rfl, (pS_8 ho).mpr ⟨3, a1, a2, a3, by rw [xc]; exact hRc, Or.inr rfl, ?_⟩, j2.mono (by omega)⟩
        rw [xa, xb, if_neg (by decide)]
      · rw [if_neg g3]
        refine rR_no hX rfl (fun R' q => ?_)
        obtain ⟨k, q1, q2, q3, e, kk, -⟩ := (pS_8 ho).mp q
        rw [xc, hRc] at e
        rcases kk with rfl | rfl
        · exact g2 (k2.mpr ⟨_, _, _, Option.some.inj e⟩)
        · exact g3 (k3.mpr ⟨_, _, _, Option.some.inj e⟩)
end
