/-! the check: instructions by kind -/
section
variable {nB h i : Nat} {W : Nat → Ty} {A : Nat → Option Ty} {o a b c : Nat → Int32} {R R' : Nat → Option Ty}
theorem pS_0 (ho : o i = 0) : pS nB W A o a b c h i R R' ↔ R' = rg R (xN a i) (some tyN) := by
  have hk : xN o i = 0 := by unfold xN; rw [ho]; rfl
  unfold pS
  rw [hk]
  exact Iff.rfl
theorem pS_1 (ho : o i = 1) : pS nB W A o a b c h i R R' ↔ R (xN b i) = some tyN ∧ R (xN c i) = some tyN ∧ R' = rg R (xN a i) (some tyN) := by
  have hk : xN o i = 1 := by unfold xN; rw [ho]; rfl
  unfold pS
  rw [hk]
  exact Iff.rfl
theorem pS_2 (ho : o i = 2) : pS nB W A o a b c h i R R' ↔ R (xN b i) = some tyN ∧ R (xN c i) = some tyN ∧ R' = rg R (xN a i) (some tyN) := by
  have hk : xN o i = 2 := by unfold xN; rw [ho]; rfl
  unfold pS
  rw [hk]
  exact Iff.rfl
theorem pS_3 (ho : o i = 3) : pS nB W A o a b c h i R R' ↔ R (xN b i) = some tyN ∧ R (xN c i) = some tyN ∧ R' = rg R (xN a i) (some tyN) := by
  have hk : xN o i = 3 := by unfold xN; rw [ho]; rfl
  unfold pS
  rw [hk]
  exact Iff.rfl
theorem pS_4 (ho : o i = 4) : pS nB W A o a b c h i R R' ↔ ∃ t u, R (xN b i) = some t ∧ R (xN c i) = some u ∧ R' = rg R (xN a i) (some (tyP t u)) := by
  have hk : xN o i = 4 := by unfold xN; rw [ho]; rfl
  unfold pS
  rw [hk]
  exact Iff.rfl
theorem pS_5 (ho : o i = 5) : pS nB W A o a b c h i R R' ↔ ∃ q1 q2 q3, R (xN b i) = some (ty_mk 1 q1 q2 q3) ∧ R' = rg R (xN a i) (if c i = 0 then q1 else q2) := by
  have hk : xN o i = 5 := by unfold xN; rw [ho]; rfl
  unfold pS
  rw [hk]
  exact Iff.rfl
theorem pS_6 (ho : o i = 6) : pS nB W A o a b c h i R R' ↔ ∃ n, n < nB ∧ b i = nI n ∧ R' = rg R (xN a i) (some (ty_mk 4 (A (3 * n)) (A (3 * n + 1)) (A (3 * n + 2)))) := by
  have hk : xN o i = 6 := by unfold xN; rw [ho]; rfl
  unfold pS
  rw [hk]
  exact Iff.rfl
theorem pS_7 (ho : o i = 7) : pS nB W A o a b c h i R R' ↔ ∃ q q3, R (xN b i) = some (ty_mk 1 (some (ty_mk 4 q (ty_p1 (W i)) (wR (W i)))) q q3) ∧ R' = rg R (xN a i) (some (W i)) := by
  have hk : xN o i = 7 := by unfold xN; rw [ho]; rfl
  unfold pS
  rw [hk]
  exact Iff.rfl
theorem pS_8 (ho : o i = 8) : pS nB W A o a b c h i R R' ↔ ∃ k q1 q2 q3, R (xN c i) = some (ty_mk k q1 q2 q3) ∧ (k = 2 ∨ k = 3) ∧ R' = rg (rg R (xN a i) (some (ty_mk 4 (some (ty_hid (h + i))) q1 (if k = 2 then some (ty_mk 3 q2 none none) else none)))) (xN b i) (some (ty_hid (h + i))) := by
  have hk : xN o i = 8 := by unfold xN; rw [ho]; rfl
  unfold pS
  rw [hk]
  exact Iff.rfl
theorem pS_9 (ho : o i = 9) : pS nB W A o a b c h i R R' ↔ pBl nB A R (a i) ∧ R' = R := by
  have hk : xN o i = 9 := by unfold xN; rw [ho]; rfl
  unfold pS
  rw [hk]
  exact Iff.rfl
theorem pS_10 (ho : o i = 10) : pS nB W A o a b c h i R R' ↔ (R (xN a i) = some tyN ∧ pBl nB A R (b i)) ∧ R' = R := by
  have hk : xN o i = 10 := by unfold xN; rw [ho]; rfl
  unfold pS
  rw [hk]
  exact and_assoc.symm
theorem pS_11 (ho : o i = 11) : pS nB W A o a b c h i R R' ↔ ∃ x y z, R (xN a i) = some (ty_mk 4 x y z) ∧ pFit R x y z ∧ R' = R := by
  have hk : xN o i = 11 := by unfold xN; rw [ho]; rfl
  unfold pS
  rw [hk]
  exact Iff.rfl
theorem pS_12 (ho : o i = 12) : pS nB W A o a b c h i R R' ↔ R 2 = some tyN ∧ R' = R := by
  have hk : xN o i = 12 := by unfold xN; rw [ho]; rfl
  unfold pS
  rw [hk]
  exact Iff.rfl
end
section
variable {B M : sm_M} {L0 FR LC : List Ty} {h i N p nB nC n d0 d1 d2 d4 : Nat} {W : Nat → Ty} {A : Nat → Option Ty} {o a b c : Nat → Int32} {R : Nat → Option Ty} {D : sm_D} {x y z : Int32} {o1 o2 o3 : Option Ty} {t : Ty}
theorem cX.r1 (hX : cX B L0 FR h i N LC R M) {k : Nat} (hk : 1 ≤ k ∧ k ≤ 5) : ty_pr LC (M 32 k) (R k) := hX.2.2.2.2.2.2 k hk.1 hk.2
/-- reckoning -/
theorem c_reck (hX : cX B L0 FR h i N LC R M) (ha : reg5 (a i)) (hb : reg5 (b i)) (hc : reg5 (c i)) (hS : ∀ R', pS nB W A o a b c h i R R' ↔ (R (xN b i) = some tyN ∧ R (xN c i) = some tyN ∧ R' = rg R (xN a i) (some tyN))) : cR B L0 FR h i N nB W A o a b c R [d0, d1, d2, p, d4] (jK_isRight_111 d0 d1 d2 p d4 (a i) (b i) (c i) M) := by
  obtain ⟨ka, ha1, ha2, ha3⟩ := reg_at ha
  obtain ⟨kb, hb1, hb2, hb3⟩ := reg_at hb
  obtain ⟨kc, hc1, hc2, hc3⟩ := reg_at hc
  have xa : xN a i = ka := ha3
  have xb : xN b i = kb := hb3
  have xc : xN c i = kc := hc3
  have b0 := hX.is0 (hX.r1 hb1)
  have c0 := hX.is0 (hX.r1 hc1)
  unfold jK_isRight_111 jK_isRight_143 jK_isRight_144
  simp only [dq_self]
  rw [hb3, hc3, hb2, hc2, ck_nI (by omega) (by decide), ck_nI (by omega) (by decide), ha2, c_gets ha1, bi_some, dq_self, if_neg (show ¬ (1 : Int32) = 0 by decide), bo_1, bo_0]
  by_cases g1 : M 32 kb = 0
  · by_cases g2 : M 32 kc = 0
    · rw [if_pos g1, if_pos g2]
      refine Or.inl ⟨rg R ka (some tyN), LC, _, rfl, (hS _).mpr ⟨by rw [xb]; exact b0.mp g1, by rw [xc]; exact c0.mp g2, by rw [xa]⟩, (hX.rgs hX.tn).next.mono (by omega)⟩
    · rw [if_pos g1, if_neg g2]
      exact cR_no hX rfl (fun R' q => g2 (c0.mpr (by rw [← xc]; exact ((hS R').mp q).2.1)))
  · rw [if_neg g1]
    exact cR_no hX rfl (fun R' q => g1 (b0.mpr (by rw [← xb]; exact ((hS R').mp q).1)))
theorem tyok_1 {q1 q2 q3 : Option Ty} (hk : tyok (ty_mk 1 q1 q2 q3) ∨ ∃ n, ty_mk 1 q1 q2 q3 = ty_hid n) : ∃ t u, q1 = some t ∧ q2 = some u ∧ q3 = none := by
  rcases hk with (e | ⟨t, u, e⟩ | ⟨t, u, e⟩ | ⟨t, e⟩ | ⟨p1, p2, p3, e⟩) | ⟨n, e⟩
  · exact absurd (ty_mk_inj e).1 (by decide)
  · obtain ⟨-, e1, e2, e3⟩ := ty_mk_inj e
    exact ⟨t, u, e1, e2, e3⟩
  · exact absurd (ty_mk_inj e).1 (by decide)
  · exact absurd (ty_mk_inj e).1 (by decide)
  · exact absurd (ty_mk_inj e).1 (by decide)
  · exact absurd e ty_mk_hid
theorem tyok_2 {q1 q2 q3 : Option Ty} (hk : tyok (ty_mk 2 q1 q2 q3) ∨ ∃ n, ty_mk 2 q1 q2 q3 = ty_hid n) : ∃ t u, q1 = some t ∧ q2 = some u ∧ q3 = none := by
  rcases hk with (e | ⟨t, u, e⟩ | ⟨t, u, e⟩ | ⟨t, e⟩ | ⟨p1, p2, p3, e⟩) | ⟨n, e⟩
  · exact absurd (ty_mk_inj e).1 (by decide)
  · exact absurd (ty_mk_inj e).1 (by decide)
  · obtain ⟨-, e1, e2, e3⟩ := ty_mk_inj e
    exact ⟨t, u, e1, e2, e3⟩
  · exact absurd (ty_mk_inj e).1 (by decide)
  · exact absurd (ty_mk_inj e).1 (by decide)
  · exact absurd e ty_mk_hid
theorem tyok_3 {q1 q2 q3 : Option Ty} (hk : tyok (ty_mk 3 q1 q2 q3) ∨ ∃ n, ty_mk 3 q1 q2 q3 = ty_hid n) : ∃ t, q1 = some t ∧ q2 = none ∧ q3 = none := by
  rcases hk with (e | ⟨t, u, e⟩ | ⟨t, u, e⟩ | ⟨t, e⟩ | ⟨p1, p2, p3, e⟩) | ⟨n, e⟩
  · exact absurd (ty_mk_inj e).1 (by decide)
  · exact absurd (ty_mk_inj e).1 (by decide)
  · exact absurd (ty_mk_inj e).1 (by decide)
  · obtain ⟨-, e1, e2, e3⟩ := ty_mk_inj e
    exact ⟨t, e1, e2, e3⟩
  · exact absurd (ty_mk_inj e).1 (by decide)
  · exact absurd e ty_mk_hid
theorem pr_mem {L : List Ty} (hp : ty_pr L x (some t)) : t ∈ L := by
  rcases hp with ⟨e, -⟩ | ⟨j, u, e, hj, -⟩
  · cases e
  · rw [Option.some.inj e]; exact List.mem_of_getElem? hj
theorem m1_ne3 : ¬ (-1 : Int32) = 3 := by decide
/-- canWrap -/
theorem c_wrap (hX : cX B L0 FR h i N LC R M) {w : Ty} (hw : wOk w) (h1 : ty_pr LC x o1) (h2 : ty_pr LC y (some w)) : rz (∃ q q3, o1 = some (ty_mk 1 (some (ty_mk 4 q (ty_p1 w) (wR w))) q q3)) (jK_canWrap x y D M) D M := by
  have hT := hX.1.1
  have nd := hT.2.2.1
  have k1 : kdI o1 = (1 : Int32) ↔ ∃ q1 q2 q3, o1 = some (ty_mk 1 q1 q2 q3) := kdI_is hT h1 (k := 1) (by decide)
  unfold jK_canWrap jK_canWrap_54 jK_canWrap_92 jK_canWrap_93
  rw [c_kd hT h1, bi_some, dq_self]
  by_cases g1 : kdI o1 = (1 : Int32)
  · obtain ⟨q1, q2, q3, rfl⟩ := k1.mp g1
    obtain ⟨x1, x2, x3, f1, f2, f3, p1, p2, p3⟩ := c_parts hT h1
    rw [if_pos g1, f1, bi_some, dq_self, c_kd hT p1, bi_some, dq_self]
    have k4 : kdI q1 = (4 : Int32) ↔ ∃ a1 a2 a3, q1 = some (ty_mk 4 a1 a2 a3) := kdI_is hT p1 (k := 4) (by decide)
    by_cases g4 : kdI q1 = (4 : Int32)
    · obtain ⟨s1, s2, s3, rfl⟩ := k4.mp g4
      obtain ⟨z1, z2, z3, e1, e2, e3, r1, r2, r3⟩ := c_parts hT p1
      have hq : (∃ q q3', some (ty_mk 1 (some (ty_mk 4 s1 s2 s3)) q2 q3) = some (ty_mk 1 (some (ty_mk 4 q (ty_p1 w) (wR w))) q q3')) ↔ s1 = q2 ∧ s2 = ty_p1 w ∧ s3 = wR w := by
        constructor
        · rintro ⟨q, q3', e⟩
          obtain ⟨-, a1, a2, -⟩ := ty_mk_inj (Option.some.inj e)
          obtain ⟨-, b1, b2, b3⟩ := ty_mk_inj (Option.some.inj a1)
          exact ⟨b1.trans a2.symm, b2, b3⟩
        · rintro ⟨rfl, rfl, rfl⟩
          exact ⟨_, _, rfl⟩
      rw [if_pos g4, e1, bi_some, dq_self, f2, bi_some, dq_self]
      by_cases g5 : z1 = x2
      · have s12 := (ty_pr.eq hX.lt nd r1 p2).mp g5
        rw [if_pos g5, e2, bi_some, dq_self]
        unfold jK_taken jK_waitsFor jK_waitsFor_58 jK_waitsFor_59 jK_waitsFor_22
        rcases hw with ⟨ta, tb, rfl⟩ | ⟨ta, rfl⟩
        · obtain ⟨v1, v2, v3, y1, y2, y3, t1, t2, t3⟩ := c_parts hT h2
          rw [y1, bi_some, dq_self, bi_some, dq_self]
          by_cases g6 : z2 = v1
          · have s2e := (ty_pr.eq hX.lt nd r2 t1).mp g6
            rw [if_pos g6, e3, bi_some, dq_self, c_kd hT h2, bi_some, dq_self, if_neg (show ¬ kdI (some (tyF ta tb)) = 3 from (show ¬ nI 2 = 3 by decide)), c_kd hT r3, bi_some, dq_self]
            have k3 : kdI s3 = (3 : Int32) ↔ ∃ a1 a2 a3, s3 = some (ty_mk 3 a1 a2 a3) := kdI_is hT r3 (k := 3) (by decide)
            by_cases g7 : kdI s3 = (3 : Int32)
            · obtain ⟨u1, u2, u3, rfl⟩ := k3.mp g7
              obtain ⟨w1, w2, w3, l1, l2, l3, m1, m2, m3⟩ := c_parts hT r3
              obtain ⟨tt, rfl, rfl, rfl⟩ := tyok_3 (hX.2.2.2.2.2.1 _ (pr_mem r3))
              rw [if_pos g7, l1, bi_some, dq_self, y2, bi_some, dq_self]
              have e8 := ty_pr.eq hX.lt nd m1 t2
              by_cases g8 : w1 = v2
              · rw [if_pos g8, bo_1, bi_some, dq_self, if_neg (show ¬ (1 : Int32) = 0 by decide)]
                refine ⟨fun _ => bo_1, fun q => absurd (hq.mpr ⟨s12, s2e, ?_⟩) q⟩
                rw [wR_F, Option.some.inj (e8.mp g8)]
                rfl
              · rw [if_neg g8, bo_0, bi_some, dq_self, if_pos rfl]
                refine ⟨fun q => absurd (e8.mpr ?_) g8, fun _ => bo_0⟩
                have := (hq.mp q).2.2
                rw [wR_F] at this
                exact (ty_mk_inj (Option.some.inj this)).2.1
            · rw [if_neg g7, bo_0, bi_some, dq_self, if_pos rfl]
              refine ⟨fun q => absurd (k3.mpr ?_) g7, fun _ => bo_0⟩
              have := (hq.mp q).2.2
              rw [wR_F] at this
              exact ⟨_, _, _, this⟩
          · rw [if_neg g6]
            exact ⟨fun q => absurd ((ty_pr.eq hX.lt nd r2 t1).mpr (hq.mp q).2.1) g6, fun _ => bo_0⟩
        · obtain ⟨v1, v2, v3, y1, y2, y3, t1, t2, t3⟩ := c_parts hT h2
          rw [y1, bi_some, dq_self, bi_some, dq_self]
          by_cases g6 : z2 = v1
          · have s2e := (ty_pr.eq hX.lt nd r2 t1).mp g6
            rw [if_pos g6, e3, bi_some, dq_self, c_kd hT h2, bi_some, dq_self, if_pos (show kdI (some (tyR ta)) = 3 from rfl)]
            have e8 := ty_pr.m1 hX.lt r3
            by_cases g8 : z3 = -1
            · rw [if_pos g8, bo_1, bi_some, dq_self, if_neg (show ¬ (1 : Int32) = 0 by decide)]
              exact ⟨fun _ => bo_1, fun q => absurd (hq.mpr ⟨s12, s2e, by rw [wR_R]; exact e8.mp g8⟩) q⟩
            · rw [if_neg g8, bo_0, bi_some, dq_self, if_pos rfl]
              exact ⟨fun q => absurd (e8.mpr (by have := (hq.mp q).2.2; rw [wR_R] at this; exact this)) g8, fun _ => bo_0⟩
          · rw [if_neg g6]
            exact ⟨fun q => absurd ((ty_pr.eq hX.lt nd r2 t1).mpr (hq.mp q).2.1) g6, fun _ => bo_0⟩
      · rw [if_neg g5]
        exact ⟨fun q => absurd ((ty_pr.eq hX.lt nd r1 p2).mpr (hq.mp q).1) g5, fun _ => bo_0⟩
    · rw [if_neg g4]
      refine ⟨fun ⟨q, q3', e⟩ => absurd (k4.mpr ⟨_, _, _, (ty_mk_inj (Option.some.inj e)).2.1⟩) g4, fun _ => bo_0⟩
  · rw [if_neg g1]
    exact ⟨fun ⟨q, q3', e⟩ => absurd (k1.mpr ⟨_, _, _, e⟩) g1, fun _ => bo_0⟩
end
