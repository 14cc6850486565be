/-! the check, the class's side: one instruction -/
section
variable {B M : sm_M} {L0 FR LC : List Ty} {h i N p nB nC n d0 d1 d2 d4 : Nat} {W : Nat → Ty} {A : Nat → Option Ty} {o a b c : Nat → Int32} {R : Nat → Option Ty} {D : sm_D} {x y z : Int32} {o1 o2 o3 : Option Ty} {t : Ty}
/-- how many types an instruction may make -/
def cwt (x : Int32) : Nat := if x = 4 then 1 else if x = 6 ∨ x = 8 then 2 else 0
/-- and several -/
def swt (o : Nat → Int32) : Nat → Nat → Nat
  | _, 0 => 0
  | i, n + 1 => cwt (o i) + swt o (i + 1) n
def sw0 (o : Nat → Int32) : Nat → Nat
  | 0 => 0
  | n + 1 => sw0 o n + cwt (o n)
theorem cwt_le {x : Int32} : cwt x ≤ 2 := by
  unfold cwt
  by_cases g : x = 4
  · rw [if_pos g]; decide
  · rw [if_neg g]
    by_cases g2 : x = 6 ∨ x = 8
    · rw [if_pos g2]; decide
    · rw [if_neg g2]; decide
theorem swt_le {o : Nat → Int32} : ∀ n i : Nat, swt o i n ≤ 2 * n
  | 0, _ => Nat.zero_le _
  | n + 1, i => by
    have h1 := swt_le (o := o) n (i + 1)
    have h2 := cwt_le (x := o i)
    show cwt (o i) + swt o (i + 1) n ≤ 2 * (n + 1)
    omega
theorem swt_sw0 {o : Nat → Int32} : ∀ n i : Nat, sw0 o i + swt o i n = sw0 o (i + n)
  | 0, _ => rfl
  | n + 1, i => by
    have h1 := swt_sw0 (o := o) n (i + 1)
    show sw0 o i + (cwt (o i) + swt o (i + 1) n) = sw0 o (i + (n + 1))
    have h2 : sw0 o (i + 1) = sw0 o i + cwt (o i) := rfl
    rw [show i + (n + 1) = i + 1 + n by omega, ← h1, h2]
    omega
theorem sw0_mono {o : Nat → Int32} {i : Nat} : ∀ n : Nat, sw0 o i ≤ sw0 o (i + n)
  | 0 => Nat.le_refl _
  | n + 1 => Nat.le_trans (sw0_mono n) (Nat.le_add_right _ _)
theorem swt_all {o : Nat → Int32} {s l n : Nat} (h : s + l ≤ n) : swt o s l ≤ sw0 o n := by
  have h1 := swt_sw0 (o := o) l s
  have h2 := sw0_mono (o := o) (i := s + l) (n - (s + l))
  rw [show s + l + (n - (s + l)) = n by omega] at h2
  omega
theorem cwt_4 {x : Int32} (h : x = 4) : cwt x = 1 := by rw [h]; rfl
theorem cwt_6 {x : Int32} (h : x = 6) : cwt x = 2 := by rw [h]; rfl
theorem cwt_8 {x : Int32} (h : x = 8) : cwt x = 2 := by rw [h]; rfl
def cR (B : sm_M) (L0 FR : List Ty) (h i N nB : Nat) (W : Nat → Ty) (A : Nat → Option Ty) (o a b c : Nat → Int32) (R : Nat → Option Ty) (D : sm_D) (j : Option sm_S) : Prop := (∃ (R' : Nat → Option Ty) (LC' : List Ty) (M' : sm_M), j = some (1, D, M') ∧ pS nB W A o a b c h i R R' ∧ cX B L0 FR h (i + 1) (N + cwt (o i)) LC' R' M') ∨ (∃ (LC' : List Ty) (M' : sm_M), j = some (0, D, M') ∧ (∀ R', ¬ pS nB W A o a b c h i R R') ∧ cZ B L0 LC' M')
theorem cX.row (hX : cX B L0 FR h i N LC R M) {q : Nat} (h1 : 33 ≤ q) : M q = B q := hX.1.2.2 q (by omega) (by omega)
theorem cX.up0 (hX : cX B L0 FR h i N LC R M) (hp : ty_pr L0 x o1) : ty_pr LC x o1 := by
  obtain ⟨K, e⟩ := hX.1.2.1
  rw [e]
  exact hp.grow
theorem cX.lt (hX : cX B L0 FR h i N LC R M) : LC.length < 2 ^ 31 := by
  have := hX.1.1.1
  omega
theorem c_asked (hg : [p] ∈ gC) (h33 : 33 ≤ p) (hC : cC B L0 p nB nC W A o a b c) (hX : cX B L0 FR h i N LC R M) {n k : Nat} (hn : n < nB) (hk : k < 3) : jC_askedType p (nI n) (nI (k + 1)) D M = some (B (p + 8) (3 * n + k), D, M) := by
  obtain ⟨-, hB40, h11, -⟩ := hC
  have hb : jC_hasBlock p (nI n) D M = some (1, D, M) := by
    rcases c_hasB (D := D) hB40 (show M p 11 = nI nB by rw [hX.row h33]; exact h11) (nI n) with ⟨_, -, -, q⟩ | ⟨q, -⟩
    · exact q
    · exact absurd ⟨nI_pos (by omega), nI_lt hn (by omega)⟩ q
  have e1 : (3 : Int32) * nI n + nI (k + 1) - 1 = nI (3 * n + k) := by
    rw [nI_3, nI_add, ← Nat.add_assoc, nI_pred]
  unfold jC_askedType jC_askedType_23 jC_askedType_44
  rw [ga_in hg, hb, bi_some, dq_self, if_neg (by decide), if_neg (show ¬ nI (k + 1) < 1 from nI_nlt (b := 1) (by omega) (by omega)), if_neg (show ¬ (3 : Int32) < nI (k + 1) from nI_nlt (a := 3) (by omega) (by decide)), eqp_self, if_neg (by decide), e1, ck_nI (by omega) (by decide), nI_clamp (by omega), hX.row (by omega)]
theorem c_give (hX : cX B L0 FR h i N LC R M) {k : Nat} (hk : 1 ≤ k ∧ k ≤ 5) (hp : ty_pr LC x o1) : rz (o1 = none ∨ R k = o1) (jK_canGive (nI k) x D M) D M := by
  have hr := hX.2.2.2.2.2.2 k hk.1 hk.2
  have hm := ty_pr.m1 hX.lt hp
  have he := ty_pr.eq hX.lt hX.1.1.2.2.1 hr hp
  unfold jK_canGive jK_canGive_15 jK_canGive_20
  rw [ck_nI (by omega) (by decide), nI_clamp (by omega), bo_1, bo_0]
  by_cases g : x = -1
  · rw [if_pos g]
    exact ⟨fun _ => rfl, fun q => absurd (Or.inl (hm.mp g)) q⟩
  · rw [if_neg g]
    by_cases g2 : M 32 k = x
    · rw [if_pos g2]
      exact ⟨fun _ => rfl, fun q => absurd (Or.inr (he.mp g2)) q⟩
    · rw [if_neg g2]
      refine ⟨fun q => ?_, fun _ => rfl⟩
      rcases q with q | q
      · exact absurd (hm.mpr q) g
      · exact absurd (he.mpr q) g2
theorem c_enter (hg : [p] ∈ gC) (h33 : 33 ≤ p) (hC : cC B L0 p nB nC W A o a b c) (hX : cX B L0 FR h i N LC R M) (hx : blk40 x) : rz (pBl nB A R x) (jK_canEnter d0 d1 d2 p d4 x M) [d0, d1, d2, p, d4] M := by
  obtain ⟨n, hn, rfl⟩ := hx
  have h11 : M p 11 = nI nB := by rw [hX.row h33]; exact hC.2.2.1
  unfold jK_canEnter jK_canEnter_66 jK_canEnter_67
  rcases c_hasB (D := [d0, d1, d2, p, d4]) hC.2.1 h11 (nI n) with ⟨n', hn', e, q⟩ | ⟨q, qj⟩
  · have en : n = n' := nI_inj (by omega) (by have := hC.2.1; omega) e
    subst en
    rw [ga_in hg, q, bi_some, dq_self, if_neg (show ¬ (1 : Int32) = 0 by decide)]
    have h1 := c_asked (D := [d0, d1, d2, p, d4]) hg h33 hC hX hn' (show 0 < 3 by decide)
    have h2 := c_asked (D := [d0, d1, d2, p, d4]) hg h33 hC hX hn' (show 1 < 3 by decide)
    have h3 := c_asked (D := [d0, d1, d2, p, d4]) hg h33 hC hX hn' (show 2 < 3 by decide)
    have g1 := c_give (D := [d0, d1, d2, p, d4]) (k := 1) hX (by decide) (hX.up0 (hC.2.2.2.2 (3 * n + 0) (by omega)))
    have g2 := c_give (D := [d0, d1, d2, p, d4]) (k := 2) hX (by decide) (hX.up0 (hC.2.2.2.2 (3 * n + 1) (by omega)))
    have g3 := c_give (D := [d0, d1, d2, p, d4]) (k := 3) hX (by decide) (hX.up0 (hC.2.2.2.2 (3 * n + 2) (by omega)))
    rw [ga_in hg, show (1 : Int32) = nI (0 + 1) from rfl, h1, bi_some, dq_self]
    refine (rz_bi (Q := (A (3 * n + 1) = none ∨ R 2 = A (3 * n + 1)) ∧ (A (3 * n + 2) = none ∨ R 3 = A (3 * n + 2))) g1 (by rw [dq_self, dq_self, bo_0]) ?_).iff ?_
    · rw [ga_in hg, show (2 : Int32) = nI (1 + 1) from rfl, h2, bi_some, dq_self]
      refine rz_bi g2 (by rw [dq_self, dq_self, bo_0]) ?_
      rw [ga_in hg, show (3 : Int32) = nI (2 + 1) from rfl, h3, bi_some, dq_self]
      by_cases g : A (3 * n + 2) = none ∨ R 3 = A (3 * n + 2)
      · rw [show nI (2 + 1) = nI 3 from rfl, g3.1 g, bi_some, dq_self, if_neg (by decide), dq_self]
        exact ⟨fun _ => bo_1, fun q => absurd g q⟩
      · rw [show nI (2 + 1) = nI 3 from rfl, g3.2 g, bi_some, dq_self, if_pos rfl, dq_self, dq_self, bo_0]
        exact ⟨fun q => absurd q g, fun _ => rfl⟩
    · exact ⟨fun q => ⟨n, hn', rfl, q⟩, fun ⟨n', q1, q2, q3⟩ => by
        have : n = n' := nI_inj (by omega) (by have := hC.2.1; omega) q2
        subst this
        exact q3⟩
  · rw [ga_in hg, qj, bi_some, dq_self, if_pos rfl, dq_self, dq_self]
    refine ⟨fun ⟨n', q1, q2, _⟩ => ?_, fun _ => bo_0⟩
    rw [q2] at q
    exact absurd ⟨nI_pos (by have := hC.2.1; omega), nI_lt q1 (by have := hC.2.1; omega)⟩ q
/-- an instruction that only looks -/
theorem cR_look {P : Prop} {j : Option sm_S} (hX : cX B L0 FR h i N LC R M) (hz : rz P j D M) (hP : ∀ R', pS nB W A o a b c h i R R' ↔ P ∧ R' = R) : cR B L0 FR h i N nB W A o a b c R D j := by
  by_cases g : P
  · exact Or.inl ⟨R, LC, M, hz.1 g, (hP R).mpr ⟨g, rfl⟩, hX.next.mono (by omega)⟩
  · exact Or.inr ⟨LC, M, hz.2 g, fun R' q => g ((hP R').mp q).1, hX.1⟩
theorem cR_no {j : Option sm_S} (hX : cX B L0 FR h i N LC R M) (hj : j = some (0, D, M)) (hP : ∀ R', ¬ pS nB W A o a b c h i R R') : cR B L0 FR h i N nB W A o a b c R D j := Or.inr ⟨LC, M, hj, hP, hX.1⟩
theorem reg_at (hx : reg5 x) : ∃ k, (1 ≤ k ∧ k ≤ 5) ∧ x = nI k ∧ x.toNatClampNeg = k := by
  obtain ⟨k, h1, h2, rfl⟩ := hx
  exact ⟨k, ⟨h1, h2⟩, rfl, nI_clamp (by omega)⟩
end
