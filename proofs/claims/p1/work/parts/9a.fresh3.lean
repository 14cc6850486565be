/-! the first call on fresh objects: size and make -/
section
variable {Mc Mm N : sm_M} {D : sm_D}
theorem x_01 {x : Int32} (h1 : ¬ x < 0) (h2 : x < nI 1) : x = 0 := by
  obtain ⟨j, hj, rfl⟩ := nI_of h1
  have : j < 1 := (nI_ltI hj (by decide)).mp h2
  have : j = 0 := by omega
  subst this
  exact nI_0
theorem c_has1 (hT : tabC Mc [tyN]) : jT_has 0 D Mc = some (1, D, Mc) := j_has_in (i := 0) hT rfl
theorem c_has0 {x : Int32} (hT : tabC Mc [tyN]) (hx : x ≠ 0) : jT_has x D Mc = some (0, D, Mc) := by
  rcases j_has (D := D) hT x with ⟨i, t, hi, rfl, -⟩ | ⟨-, h⟩
  · have : i = 0 := by have := (List.getElem?_eq_some_iff.mp hi).1; simp at this; exact this
    subst this
    exact absurd nI_0 hx
  · exact h
theorem r_made1 (h : N 1 7 = nI 1) : jR_isMade 0 D N = some (1, D, N) := by
  unfold jR_isMade
  rw [if_neg (by decide), h, if_pos (by decide)]
  rfl
theorem r_made0 {x : Int32} (h : N 1 7 = nI 1) (hx : x ≠ 0) : jR_isMade x D N = some (0, D, N) := by
  unfold jR_isMade
  by_cases h1 : x < 0
  · rw [if_pos h1]; rfl
  · rw [if_neg h1, h, if_neg (fun h2 => hx (x_01 h1 h2))]; rfl
theorem pr_N : ty_pr [tyN] 0 (some tyN) := Or.inr ⟨0, tyN, rfl, rfl, nI_0.symm⟩
theorem ck_0 {ρ : Type} {n : Nat} {k : Option ρ} (h : 0 < n) : sm_ck 0 n k = k := ck_of ⟨by decide, by show (0 : Int) < (n : Int); omega⟩
theorem f_size (hC : fr_C Mc) (hM : fr_M Mm) {a : Int32} : lc_two (jA_size a [40, 50, 40, 0, 0] Mc) (jR_size a [] Mm) p1_P := by
  have h7 : sm_up Mm 1 0 0 1 7 = nI 1 := by rw [up10 (by decide)]; exact hM.2.1
  by_cases ha : a = 0
  · subst ha
    refine ⟨nI (ty_so (some tyN)), [40, 50, 40, 0, 0], Mc, sm_up Mm 1 0 0, ?_, ?_, p1_0⟩
    · unfold jA_size
      rw [c_has1 hC.1, bi_some, dq_self, if_neg (by decide), j_sizeOf hC.1 pr_N, bi_some, dq_self]
      rfl
    · simp only [jR_size, sm_wr]
      rw [r_made1 h7, bi_some, dq_self, if_neg (by decide), ck_0 (by decide), up_ne (show (7 : Nat) ≠ 1 by decide), show (0 : Int32).toNatClampNeg = 0 from rfl, hM.2.2.1, ck_0 (by decide), up_ne (show (6 : Nat) ≠ 1 by decide), show (0 : Int32).toNatClampNeg = 0 from rfl, (hM.1.2.2.2 0 tyN rfl).2]
      rfl
  · refine ⟨-1, [40, 50, 40, 0, 0], Mc, sm_up Mm 1 0 0, ?_, ?_, p1_0⟩
    · unfold jA_size
      rw [c_has0 hC.1 ha, bi_some, dq_self, if_pos rfl]
      rfl
    · simp only [jR_size, sm_wr]
      rw [r_made0 h7 ha, bi_some, dq_self, if_pos rfl]
      rfl
theorem e_k38_no {k a x y z : Int32} (hE : Mc 9 6 = 0) (hk : ∀ {ρ : Type} {q : Option ρ}, sm_ck k 11 q = q) (hp : (0 : Int32) < sm_tab tPARTS k.toNatClampNeg) : jE_keep_38 k a x y z D Mc = some (-1, D, Mc) := by
  unfold jE_keep_38
  have h1 : jE_heightOver (sm_tab tPARTS k.toNatClampNeg) x y z D Mc = some (-1, D, Mc) := by
    unfold jE_heightOver jE_heightOver_6
    refine sm_lp_end ?_
    show jE_heightOver_6_c (sm_tab tPARTS k.toNatClampNeg) x y z 0 0 D Mc = _
    unfold jE_heightOver_6_c jE_heightOver_33
    rw [if_pos hp, if_pos rfl, dq_self, e_has0 hE, bi_some, dq_self, if_pos rfl]
  rw [hk, h1, bi_some, dq_self, if_pos rfl]
  rfl
theorem u9 {p j : Nat} {v : Int32} (h : 9 ≠ p) : sm_up N p j v 9 = N 9 := up_ne h
theorem e_k38_ok {k a x y z : Int32} (hE : Mc 9 6 = 0) (hk : ∀ {ρ : Type} {q : Option ρ}, sm_ck k 11 q = q) (hp : sm_tab tPARTS k.toNatClampNeg = 0) : ∃ M', jE_keep_38 k a x y z D Mc = some (0, D, M') := by
  have h1 : jE_heightOver (sm_tab tPARTS k.toNatClampNeg) x y z D Mc = some (1, D, Mc) := by
    unfold jE_heightOver jE_heightOver_6
    refine sm_lp_end ?_
    show jE_heightOver_6_c (sm_tab tPARTS k.toNatClampNeg) x y z 0 0 D Mc = _
    unfold jE_heightOver_6_c
    rw [hp, if_neg (by decide)]
    rfl
  unfold jE_keep_38
  rw [hk, h1, bi_some, dq_self, if_neg (by decide), if_neg (by decide)]
  simp only [sm_wr, u9 (show (9 : Nat) ≠ 10 by decide), u9 (show (9 : Nat) ≠ 11 by decide), u9 (show (9 : Nat) ≠ 12 by decide), u9 (show (9 : Nat) ≠ 13 by decide), u9 (show (9 : Nat) ≠ 14 by decide), u9 (show (9 : Nat) ≠ 15 by decide), hE, ck_0 (show 0 < 40 by decide), up_at]
  exact ⟨_, rfl⟩
theorem r_mk_no {k a x y z n : Int32} (hE : N 1 13 = 0) (hn : (0 : Int32) < n) : jR_make_78 k a x y z n D N = some (-1, D, N) := by
  unfold jR_make_78
  rw [if_pos hn, r_isE0 hE, bi_some, dq_self, if_pos rfl]
  rfl
theorem r_mk_ok {k a x y z : Int32} (hE : N 1 13 = 0) : ∃ M', jR_make_78 k a x y z 0 D N = some (0, D, M') := by
  unfold jR_make_78 jR_make_91 jR_make_106 jR_make_123 jR_make_138 jR_make_168 jR_make_170 jR_make_200 jR_make_202
  rw [if_neg (by decide), if_neg (by decide), if_neg (by decide), if_neg (by decide), if_neg (by decide), if_neg (by decide), if_neg (by decide)]
  simp only [sm_wr, hE, ck_0 (show 0 < 40 by decide)]
  exact ⟨_, rfl⟩
theorem f_make (hC : fr_C Mc) (hM : fr_M Mm) {k a x y z : Int32} : lc_two (jA_make k a x y z [40, 50, 40, 0, 0] Mc) (jR_make k a x y z [] Mm) p1_P := by
  have hE := hC.2.1
  have h13 : sm_up Mm 1 0 0 1 13 = 0 := by rw [up10 (by decide)]; exact hM.2.2.2.1
  have h7 : sm_up Mm 1 0 0 1 7 = nI 1 := by rw [up10 (by decide)]; exact hM.2.1
  have hno : jA_make k a x y z [40, 50, 40, 0, 0] Mc = some (-1, [40, 50, 40, 0, 0], Mc) → (∃ M', jR_make k a x y z [] Mm = some (-1, [], M')) → lc_two (jA_make k a x y z [40, 50, 40, 0, 0] Mc) (jR_make k a x y z [] Mm) p1_P := fun h1 ⟨M', h2⟩ => ⟨-1, _, Mc, M', h1, h2, p1_0⟩
  have mk20 : ∀ {r : Int32} {M' : sm_M}, k ≠ 6 → jE_keep k a x y z [40, 50, 40, 0, 0] Mc = some (r, [40, 50, 40, 0, 0], M') → jA_make k a x y z [40, 50, 40, 0, 0] Mc = some (r, [40, 50, 40, 0, 0], M') := by
    intro r M' h6 h
    unfold jA_make jA_make_20
    rw [if_neg h6, h, bi_some, dq_self]
  by_cases h0 : k < 0
  · have h6 : k ≠ 6 := fun q => by subst q; exact absurd h0 (by decide)
    refine hno (mk20 h6 ?_) ⟨sm_up Mm 1 0 0, ?_⟩
    · unfold jE_keep; rw [hE, if_neg (by decide), if_pos h0]; rfl
    · simp only [jR_make, sm_wr]; rw [if_pos h0]; rfl
  · by_cases h10 : (10 : Int32) < k
    · have h6 : k ≠ 6 := fun q => by subst q; exact absurd h10 (by decide)
      refine hno (mk20 h6 ?_) ⟨sm_up Mm 1 0 0, ?_⟩
      · unfold jE_keep; rw [hE, if_neg (by decide), if_neg h0, if_pos h10]; rfl
      · simp only [jR_make, sm_wr]; rw [if_neg h0, if_pos h10]; rfl
    · by_cases h6 : k = 6
      · subst h6
        refine hno ?_ ⟨sm_up Mm 1 0 0, ?_⟩
        · unfold jA_make
          rw [if_pos rfl]
          by_cases ha : a = 0
          · subst ha
            have := j_kindOf (D := [40, 50, 40, 0, 0]) (i := 0) hC.1 rfl
            rw [show (nI 0 : Int32) = 0 from nI_0] at this
            rw [this, bi_some, dq_self, if_neg (by rw [(hC.1.row (n := 0) (o1 := none) (o2 := none) (o3 := none) (i := 0) rfl).2.1]; decide)]
          · have : jT_kindOf a [40, 50, 40, 0, 0] Mc = some (-1, [40, 50, 40, 0, 0], Mc) := by
              unfold jT_kindOf
              rw [c_has0 hC.1 ha, bi_some, dq_self, if_pos rfl]
              rfl
            rw [this, bi_some, dq_self, if_neg (by decide)]
        · simp only [jR_make, sm_wr]
          rw [if_neg (by decide), if_neg (by decide), if_neg (by rw [h13]; decide)]
          rw [show jR_partsOf 6 [] (sm_up Mm 1 0 0) = some (1, [], sm_up Mm 1 0 0) from rfl, bi_some, dq_self, if_neg (by decide)]
          unfold jR_make_47
          rw [if_pos rfl]
          by_cases ha : a = 0
          · subst ha
            rw [r_made1 h7, bi_some, dq_self, if_neg (by decide), ck_0 (by decide), up_ne (show (7 : Nat) ≠ 1 by decide), show (0 : Int32).toNatClampNeg = 0 from rfl, hM.2.2.1, ck_0 (by decide), up_ne (show (2 : Nat) ≠ 1 by decide), show (0 : Int32).toNatClampNeg = 0 from rfl, if_neg (by rw [(hM.1.row (n := 0) (o1 := none) (o2 := none) (o3 := none) (i := 0) rfl).2.1]; decide)]
            rfl
          · rw [r_made0 h7 ha, bi_some, dq_self, if_pos rfl]
            rfl
      · obtain ⟨j, hj, rfl⟩ := nI_of2 (M := 10) (n := 10) (by decide) h0 (Int32.not_lt.mp h10)
        have hck : ∀ {ρ : Type} {q : Option ρ}, sm_ck (nI j) 11 q = q := ck_nI (by omega) (by decide)
        have hcl : (nI j).toNatClampNeg = j := nI_clamp (by omega)
        have hk : ∀ {Rr : sm_S}, jE_keep_38 (nI j) a x y z [40, 50, 40, 0, 0] Mc = some Rr → ¬ (nI j = 1 ∧ (a < 0 ∨ (20 : Int32) < a)) → jE_keep (nI j) a x y z [40, 50, 40, 0, 0] Mc = some Rr := by
          intro Rr h hna
          unfold jE_keep
          rw [hE, if_neg (by decide), if_neg h0, if_neg h10]
          by_cases h1 : nI j = 1
          · rw [if_pos h1, if_neg (fun q => hna ⟨h1, Or.inl q⟩), if_neg (fun q => hna ⟨h1, Or.inr q⟩)]; exact h
          · rw [if_neg h1]; exact h
        have hr : ∀ {np : Int32} {Rr : sm_S}, jR_partsOf (nI j) [] (sm_up Mm 1 0 0) = some (np, [], sm_up Mm 1 0 0) → jR_make_78 (nI j) a x y z np [] (sm_up Mm 1 0 0) = some Rr → ¬ (nI j = 1 ∧ (a < 0 ∨ (20 : Int32) < a)) → jR_make (nI j) a x y z [] Mm = some Rr := by
          intro np Rr hp h hna
          simp only [jR_make, sm_wr]
          rw [if_neg h0, if_neg h10, if_neg (by rw [h13]; decide), hp, bi_some, dq_self]
          by_cases h1 : nI j = 1
          · rw [if_pos h1, if_neg (fun q => hna ⟨h1, Or.inl q⟩), if_neg (fun q => hna ⟨h1, Or.inr q⟩)]
            unfold jR_make_47
            rw [if_neg h6]; exact h
          · rw [if_neg h1]
            unfold jR_make_47
            rw [if_neg h6]; exact h
        have ok : sm_tab tPARTS j = 0 → jR_partsOf (nI j) [] (sm_up Mm 1 0 0) = some (0, [], sm_up Mm 1 0 0) → ¬ (nI j = 1 ∧ (a < 0 ∨ (20 : Int32) < a)) → lc_two (jA_make (nI j) a x y z [40, 50, 40, 0, 0] Mc) (jR_make (nI j) a x y z [] Mm) p1_P := by
          intro h1 h2 hna
          obtain ⟨M', e1⟩ := e_k38_ok (D := [40, 50, 40, 0, 0]) (a := a) (x := x) (y := y) (z := z) hE hck (by rw [hcl]; exact h1)
          obtain ⟨M2, e2⟩ := r_mk_ok (D := []) (k := nI j) (a := a) (x := x) (y := y) (z := z) h13
          exact ⟨0, _, M', M2, mk20 h6 (hk e1 hna), hr h2 e2 hna, p1_0⟩
        have no : ∀ {np : Int32}, (0 : Int32) < sm_tab tPARTS j → (0 : Int32) < np → jR_partsOf (nI j) [] (sm_up Mm 1 0 0) = some (np, [], sm_up Mm 1 0 0) → ¬ (nI j = 1 ∧ (a < 0 ∨ (20 : Int32) < a)) → lc_two (jA_make (nI j) a x y z [40, 50, 40, 0, 0] Mc) (jR_make (nI j) a x y z [] Mm) p1_P := by
          intro np h1 h2 h3 hna
          exact hno (mk20 h6 (hk (e_k38_no hE hck (by rw [hcl]; exact h1)) hna)) ⟨_, hr h3 (r_mk_no h13 h2) hna⟩
        match j, hj with
        | 0, _ => exact ok rfl rfl (fun q => absurd q.1 (by decide))
        | 1, _ =>
          by_cases hb : a < 0 ∨ (20 : Int32) < a
          · refine hno (mk20 h6 ?_) ⟨sm_up Mm 1 0 0, ?_⟩
            · unfold jE_keep
              rw [hE, if_neg (by decide), if_neg h0, if_neg h10, if_pos (show nI 1 = 1 from rfl)]
              by_cases h1 : a < 0
              · rw [if_pos h1]; rfl
              · rw [if_neg h1, if_pos (hb.resolve_left h1)]; rfl
            · simp only [jR_make, sm_wr]
              rw [if_neg h0, if_neg h10, if_neg (by rw [h13]; decide), show jR_partsOf (nI 1) [] (sm_up Mm 1 0 0) = some (0, [], sm_up Mm 1 0 0) from rfl, bi_some, dq_self, if_pos (show nI 1 = 1 from rfl)]
              by_cases h1 : a < 0
              · rw [if_pos h1]; rfl
              · rw [if_neg h1, if_pos (hb.resolve_left h1)]; rfl
          · exact ok rfl rfl (fun q => hb q.2)
        | 2, _ => exact no (np := 2) (by decide) (by decide) rfl (fun q => absurd q.1 (by decide))
        | 3, _ => exact no (np := 2) (by decide) (by decide) rfl (fun q => absurd q.1 (by decide))
        | 4, _ => exact no (np := 2) (by decide) (by decide) rfl (fun q => absurd q.1 (by decide))
        | 5, _ => exact no (np := 3) (by decide) (by decide) rfl (fun q => absurd q.1 (by decide))
        | 6, _ => exact absurd rfl h6
        | 7, _ => exact no (np := 2) (by decide) (by decide) rfl (fun q => absurd q.1 (by decide))
        | 8, _ => exact no (np := 2) (by decide) (by decide) rfl (fun q => absurd q.1 (by decide))
        | 9, _ => exact no (np := 1) (by decide) (by decide) rfl (fun q => absurd q.1 (by decide))
        | 10, _ => exact no (np := 1) (by decide) (by decide) rfl (fun q => absurd q.1 (by decide))
end
