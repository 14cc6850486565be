/-! make -/
/-- x names an expression of the height g -/
def exA (n : Nat) (M : sm_M) (x : Int32) (g : Nat) : Prop := ∃ e : Nat, e < n ∧ x = nI e ∧ M 15 e = nI g ∧ g ≤ 8
def hm (np gx gy gz : Nat) : Nat := match np with
  | 0 => 0
  | 1 => gx
  | 2 => if gx < gy then gy else gx
  | _ => if (if gx < gy then gy else gx) < gz then gz else if gx < gy then gy else gx
section
variable {pV : pVt} {nB nC p d1 d3 d4 n : Nat} {L LM : List Ty} {W : Nat → Ty} {A : Nat → Option Ty} {Mc Mm N : sm_M} {D : sm_D} {x y z : Int32}
theorem e_hasA (hn : n ≤ 40) (h6 : Mc 9 6 = nI n) (h13 : N 1 13 = nI n) (hI : ∀ i, i < n → exI L Mc i) (x : Int32) : (∃ g, exA n Mc x g ∧ (∀ {D : sm_D}, jE_has x D Mc = some (1, D, Mc)) ∧ ∀ {D : sm_D}, jR_isExpression x D N = some (1, D, N)) ∨ ((∀ {D : sm_D}, jE_has x D Mc = some (0, D, Mc)) ∧ ∀ {D : sm_D}, jR_isExpression x D N = some (0, D, N)) := by
  unfold jE_has jR_isExpression
  rw [h6, h13]
  by_cases h1 : x < 0
  · exact Or.inr ⟨fun {D} => by rw [if_pos h1]; exact bo_0, fun {D} => by rw [if_pos h1]; exact bo_0⟩
  · by_cases h2 : x < nI n
    · obtain ⟨e, he, rfl⟩ := lt_nI (by omega) h1 h2
      obtain ⟨k, h, -, -, -, h8, hh, -⟩ := hI e he
      exact Or.inl ⟨h, ⟨e, he, rfl, hh, h8⟩, fun {D} => by rw [if_neg h1, if_pos h2]; exact bo_1, fun {D} => by rw [if_neg h1, if_pos h2]; exact bo_1⟩
    · exact Or.inr ⟨fun {D} => by rw [if_neg h1, if_neg h2]; exact bo_0, fun {D} => by rw [if_neg h1, if_neg h2]; exact bo_0⟩
theorem j_max {a b : Nat} (ha : a < 2 ^ 31) (hb : b < 2 ^ 31) : jX_max (nI a) (nI b) D Mc = some (nI (if a < b then b else a), D, Mc) := by
  unfold jX_max
  by_cases h : a < b
  · rw [if_pos ((nI_ltI ha hb).mpr h), if_pos h]; rfl
  · rw [if_neg (fun q => h ((nI_ltI ha hb).mp q)), if_neg h]; rfl
theorem eh_33 {l1 l2 l3 l4 l6 s0 : Int32} {g g0 : Nat} (hn : n ≤ 40) (hg : g0 ≤ 8) (h : exA n Mc s0 g) (hh : jE_has s0 D Mc = some (1, D, Mc)) : jE_heightOver_33 l1 l2 l3 l4 (nI g0) l6 s0 D Mc = some (.inl (l1, l2, l3, l4, nI (if g0 < g then g else g0), l6 + 1, Mc)) := by
  obtain ⟨e, he, rfl, e15, h8⟩ := h
  unfold jE_heightOver_33
  rw [hh, bi_some, dq_self, if_neg (by decide), ck_nI (by omega) (by decide), nI_clamp (by omega), e15, j_max (by omega) (by omega), bi_some, dq_self, dq_self]
theorem eh_33n {l1 l2 l3 l4 l5 l6 s0 : Int32} (hh : jE_has s0 D Mc = some (0, D, Mc)) : jE_heightOver_33 l1 l2 l3 l4 l5 l6 s0 D Mc = some (.inr (-1, D, Mc)) := by
  unfold jE_heightOver_33
  rw [hh, bi_some, dq_self, if_pos rfl]
theorem eh_c {np j : Nat} {l5 : Int32} (hj : j < np) (h3 : np ≤ 3) : jE_heightOver_6_b D (nI np, x, y, z, l5, nI j, Mc) = jE_heightOver_33 (nI np) x y z l5 (nI j) (if j = 0 then x else if j = 1 then y else z) D Mc := by
  show jE_heightOver_6_c (nI np) x y z l5 (nI j) D Mc = _
  unfold jE_heightOver_6_c
  rw [if_pos (nI_lt hj (by omega)), dq_self, dq_self, dq_self]
  match j, hj with
  | 0, _ => rw [if_pos (show nI 0 = 0 from nI_0), if_pos rfl]
  | 1, _ => rw [if_neg (by decide), if_pos (show nI 1 = 1 from rfl), if_neg (by decide), if_pos rfl]
  | 2, _ => rw [if_neg (by decide), if_neg (by decide), if_neg (by decide), if_neg (by decide)]
  | j + 3, hj => omega
theorem eh_e {np g : Nat} (h3 : np ≤ 3) : jE_heightOver_6_b D (nI np, x, y, z, nI g, nI np, Mc) = some (.inr (nI (g + 1), D, Mc)) := by
  show jE_heightOver_6_c (nI np) x y z (nI g) (nI np) D Mc = _
  unfold jE_heightOver_6_c
  rw [if_neg (nI_nlt (Nat.le_refl _) (by omega)), nI_1]
theorem r_170 {k a : Int32} {np g0 gz : Nat} (hn : n ≤ 40) (h3 : np ≤ 3) (h8 : g0 ≤ 8) (e17 : ∀ i, i < n → N 17 i = Mc 15 i) (hz : 2 < np → exA n Mc z gz) : jR_make_170 k a x y z (nI np) (nI g0) D N = jR_make_202 k a x y z (nI (if 2 < np then if g0 < gz then gz else g0 else g0)) D N := by
  unfold jR_make_170 jR_make_200
  by_cases h : 2 < np
  · obtain ⟨e, he, rfl, f1, f2⟩ := hz h
    have ke : ∀ {ρ : Type} {q : Option ρ}, sm_ck (nI e) 40 q = q := ck_nI (by omega) (by decide)
    rw [if_pos (show (2 : Int32) < nI np from nI_lt h (by omega)), ke, ke, nI_clamp (by omega), e17 e he, f1, if_pos h]
    by_cases h' : g0 < gz
    · rw [if_pos (nI_lt h' (by omega)), if_pos h']
    · rw [if_neg (nI_nlt (by omega) (by omega)), if_neg h']
  · rw [if_neg (show ¬ (2 : Int32) < nI np from nI_nlt (a := 2) (by omega) (by decide)), if_neg h]
theorem r_138 {k a : Int32} {np g0 gy gz : Nat} (hn : n ≤ 40) (h3 : np ≤ 3) (h8 : g0 ≤ 8) (e17 : ∀ i, i < n → N 17 i = Mc 15 i) (hy : 1 < np → exA n Mc y gy) (hz : 2 < np → exA n Mc z gz) : jR_make_138 k a x y z (nI np) (nI g0) D N = jR_make_202 k a x y z (nI (if 2 < np then if (if 1 < np then if g0 < gy then gy else g0 else g0) < gz then gz else (if 1 < np then if g0 < gy then gy else g0 else g0) else (if 1 < np then if g0 < gy then gy else g0 else g0))) D N := by
  unfold jR_make_138 jR_make_168
  by_cases h : 1 < np
  · obtain ⟨e, he, rfl, f1, f2⟩ := hy h
    have ke : ∀ {ρ : Type} {q : Option ρ}, sm_ck (nI e) 40 q = q := ck_nI (by omega) (by decide)
    rw [if_pos (show (1 : Int32) < nI np from nI_lt h (by omega)), ke, ke, nI_clamp (by omega), e17 e he, f1, if_pos h]
    by_cases h' : g0 < gy
    · rw [if_pos (nI_lt h' (by omega)), if_pos h', r_170 hn h3 f2 e17 hz]
    · rw [if_neg (nI_nlt (by omega) (by omega)), if_neg h', r_170 hn h3 h8 e17 hz]
  · rw [if_neg (show ¬ (1 : Int32) < nI np from nI_nlt (a := 1) (by omega) (by decide)), if_neg h, r_170 hn h3 h8 e17 hz]
theorem r_123 {k a : Int32} {np gx gy gz : Nat} (hn : n ≤ 40) (h3 : np ≤ 3) (e17 : ∀ i, i < n → N 17 i = Mc 15 i) (hx : 0 < np → exA n Mc x gx) (hy : 1 < np → exA n Mc y gy) (hz : 2 < np → exA n Mc z gz) : jR_make_123 k a x y z (nI np) D N = jR_make_202 k a x y z (nI (hm np gx gy gz)) D N := by
  unfold jR_make_123
  match np, h3 with
  | 0, _ =>
    rw [if_neg (show ¬ (0 : Int32) < nI 0 by decide), show (0 : Int32) = nI 0 from rfl, r_138 (gy := gy) (gz := gz) hn (by decide) (by decide) e17 hy hz]
    rfl
  | 1, _ =>
    obtain ⟨e, he, rfl, f1, f2⟩ := hx (by decide)
    rw [if_pos (show (0 : Int32) < nI 1 by decide), ck_nI (by omega) (by decide), nI_clamp (by omega), e17 e he, f1, r_138 (gy := gy) (gz := gz) hn (by decide) f2 e17 hy hz]
    rfl
  | 2, _ =>
    obtain ⟨e, he, rfl, f1, f2⟩ := hx (by decide)
    rw [if_pos (show (0 : Int32) < nI 2 by decide), ck_nI (by omega) (by decide), nI_clamp (by omega), e17 e he, f1, r_138 (gy := gy) (gz := gz) hn (by decide) f2 e17 hy hz]
    rfl
  | 3, _ =>
    obtain ⟨e, he, rfl, f1, f2⟩ := hx (by decide)
    rw [if_pos (show (0 : Int32) < nI 3 by decide), ck_nI (by omega) (by decide), nI_clamp (by omega), e17 e he, f1, r_138 (gy := gy) (gz := gz) hn (by decide) f2 e17 hy hz]
    rfl
  | np + 4, h => omega
/-- the parts: all there, with their height; or not -/
theorem q_parts {np : Nat} (hn : n ≤ 40) (h3 : np ≤ 3) (h6 : Mc 9 6 = nI n) (h13 : N 1 13 = nI n) (e17 : ∀ i, i < n → N 17 i = Mc 15 i) (hI : ∀ i, i < n → exI L Mc i) (x y z : Int32) : (∃ gx gy gz, (0 < np → exA n Mc x gx) ∧ (1 < np → exA n Mc y gy) ∧ (2 < np → exA n Mc z gz) ∧ jE_heightOver (nI np) x y z D Mc = some (nI (hm np gx gy gz + 1), D, Mc) ∧ ∀ k a : Int32, jR_make_78 k a x y z (nI np) [] N = jR_make_202 k a x y z (nI (hm np gx gy gz)) [] N) ∨ (jE_heightOver (nI np) x y z D Mc = some (-1, D, Mc) ∧ ∀ k a : Int32, jR_make_78 k a x y z (nI np) [] N = some (-1, [], N)) := by
  have st : jE_heightOver (nI np) x y z D Mc = sm_lp (jE_heightOver_6_b D) (nI np, x, y, z, nI 0, nI 0, Mc) := rfl
  rw [st]
  by_cases p0 : 0 < np
  · have P0 : (0 : Int32) < nI np := nI_lt p0 (by omega)
    rcases e_hasA (N := N) hn h6 h13 hI x with ⟨gx, ax, c1, m1⟩ | ⟨c1, m1⟩
    · have s1 : jE_heightOver_6_b D (nI np, x, y, z, nI 0, nI 0, Mc) = some (.inl (nI np, x, y, z, nI gx, nI 1, Mc)) := by
        rw [eh_c p0 h3, if_pos rfl, eh_33 hn (by decide) ax c1, nI_1]
        by_cases q : 0 < gx
        · rw [if_pos q]
        · rw [if_neg q]; have : gx = 0 := by omega
          rw [this]
      have f2 : gx ≤ 8 := by obtain ⟨e, -, -, -, f⟩ := ax; exact f
      have A1 : ∀ k a : Int32, jR_make_78 k a x y z (nI np) [] N = jR_make_91 k a x y z (nI np) [] N := fun k a => by
        unfold jR_make_78
        rw [if_pos P0, m1, bi_some, dq_self, if_neg (by decide)]
      rw [sm_lp_eq s1]
      by_cases p1 : 1 < np
      · have P1 : (1 : Int32) < nI np := nI_lt p1 (by omega)
        rcases e_hasA (N := N) hn h6 h13 hI y with ⟨gy, ay, c2, m2⟩ | ⟨c2, m2⟩
        · have s2 : jE_heightOver_6_b D (nI np, x, y, z, nI gx, nI 1, Mc) = some (.inl (nI np, x, y, z, nI (if gx < gy then gy else gx), nI 2, Mc)) := by
            rw [eh_c p1 h3, if_neg (by decide), if_pos rfl, eh_33 hn f2 ay c2, nI_1]
          have f3 : (if gx < gy then gy else gx) ≤ 8 := by
            obtain ⟨e, -, -, -, f⟩ := ay
            by_cases q : gx < gy
            · rw [if_pos q]; exact f
            · rw [if_neg q]; exact f2
          have A2 : ∀ k a : Int32, jR_make_91 k a x y z (nI np) [] N = jR_make_106 k a x y z (nI np) [] N := fun k a => by
            unfold jR_make_91
            rw [if_pos P1, m2, bi_some, dq_self, if_neg (by decide)]
          rw [sm_lp_eq s2]
          by_cases p2 : 2 < np
          · have e3 : np = 3 := by omega
            subst e3
            rcases e_hasA (N := N) hn h6 h13 hI z with ⟨gz, az, c3, m3⟩ | ⟨c3, m3⟩
            · have s3 : jE_heightOver_6_b D (nI 3, x, y, z, nI (if gx < gy then gy else gx), nI 2, Mc) = some (.inl (nI 3, x, y, z, nI (if (if gx < gy then gy else gx) < gz then gz else if gx < gy then gy else gx), nI 3, Mc)) := by
                rw [eh_c p2 h3, if_neg (show ¬ (2 : Nat) = 0 by decide), if_neg (show ¬ (2 : Nat) = 1 by decide), eh_33 hn f3 az c3, nI_1]
              refine Or.inl ⟨gx, gy, gz, fun _ => ax, fun _ => ay, fun _ => az, ?_, fun k a => ?_⟩
              · rw [sm_lp_eq s3]
                exact sm_lp_end (eh_e (np := 3) (by decide))
              · rw [A1, A2]
                unfold jR_make_106
                rw [if_pos (show (2 : Int32) < nI 3 by decide), m3, bi_some, dq_self, if_neg (by decide)]
                exact r_123 hn (by decide) e17 (fun _ => ax) (fun _ => ay) (fun _ => az)
            · refine Or.inr ⟨sm_lp_end ?_, fun k a => ?_⟩
              · rw [eh_c p2 h3, if_neg (show ¬ (2 : Nat) = 0 by decide), if_neg (show ¬ (2 : Nat) = 1 by decide), eh_33n c3]
              · rw [A1, A2]
                unfold jR_make_106
                rw [if_pos (show (2 : Int32) < nI 3 by decide), m3, bi_some, dq_self, if_pos rfl]; rfl
          · have e2 : np = 2 := by omega
            subst e2
            refine Or.inl ⟨gx, gy, 0, fun _ => ax, fun _ => ay, fun q => absurd q p2, sm_lp_end (eh_e (np := 2) (by decide)), fun k a => ?_⟩
            rw [A1, A2]
            unfold jR_make_106
            rw [if_neg (show ¬ (2 : Int32) < nI 2 by decide)]
            exact r_123 hn (by decide) e17 (fun _ => ax) (fun _ => ay) (fun q => absurd q p2)
        · refine Or.inr ⟨sm_lp_end ?_, fun k a => ?_⟩
          · rw [eh_c p1 h3, if_neg (by decide), if_pos rfl, eh_33n c2]
          · rw [A1]
            unfold jR_make_91
            rw [if_pos P1, m2, bi_some, dq_self, if_pos rfl]; rfl
      · have e1 : np = 1 := by omega
        subst e1
        refine Or.inl ⟨gx, 0, 0, fun _ => ax, fun q => absurd q p1, fun q => absurd q (by decide), sm_lp_end (eh_e (np := 1) (by decide)), fun k a => ?_⟩
        rw [A1]
        unfold jR_make_91 jR_make_106
        rw [if_neg (show ¬ (1 : Int32) < nI 1 by decide), if_neg (show ¬ (2 : Int32) < nI 1 by decide)]
        exact r_123 hn (by decide) e17 (fun _ => ax) (fun q => absurd q p1) (fun q => absurd q (by decide))
    · refine Or.inr ⟨sm_lp_end ?_, fun k a => ?_⟩
      · rw [eh_c p0 h3, if_pos rfl, eh_33n c1]
      · unfold jR_make_78
        rw [if_pos P0, m1, bi_some, dq_self, if_pos rfl]; rfl
  · have e0 : np = 0 := by omega
    subst e0
    refine Or.inl ⟨0, 0, 0, fun q => absurd q (by decide), fun q => absurd q (by decide), fun q => absurd q (by decide), sm_lp_end (eh_e (np := 0) (by decide)), fun k a => ?_⟩
    unfold jR_make_78 jR_make_91 jR_make_106
    rw [if_neg (show ¬ (0 : Int32) < nI 0 by decide), if_neg (show ¬ (1 : Int32) < nI 0 by decide), if_neg (show ¬ (2 : Int32) < nI 0 by decide)]
    exact r_123 hn (by decide) e17 (fun q => absurd q (by decide)) (fun q => absurd q (by decide)) (fun q => absurd q (by decide))
end
