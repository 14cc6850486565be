/-! the check, the class's side: blocks and the verdict -/
section
variable {B M : sm_M} {L0 FR LC : List Ty} {h N p nB nC n d0 d1 d2 d3 d4 s l : Nat} {W : Nat → Ty} {A : Nat → Option Ty} {o a b c st le : Nat → Int32} {R : Nat → Option Ty} {x y z : Int32} {o1 o2 o3 : Option Ty} {t : Ty}
def cFl (o : Nat → Int32) (s j : Nat) (fl : Int32) : Prop := (fl = 1 ∧ 0 < j ∧ pEn o (s + j - 1)) ∨ (fl = 0 ∧ ¬ (0 < j ∧ pEn o (s + j - 1)))
theorem c_ends {D : sm_D} (o : Nat → Int32) (i : Nat) : ∃ fl, jK_ends (o i) D M = some (fl, D, M) ∧ ((fl = 1 ∧ pEn o i) ∨ (fl = 0 ∧ ¬ pEn o i)) := by
  unfold jK_ends jK_ends_18 jK_ends_23
  rw [bo_1, bo_0]
  by_cases g1 : o i = 9
  · rw [if_pos g1]; exact ⟨1, rfl, Or.inl ⟨rfl, Or.inl g1⟩⟩
  · by_cases g2 : o i = 11
    · rw [if_neg g1, if_pos g2]; exact ⟨1, rfl, Or.inl ⟨rfl, Or.inr (Or.inl g2)⟩⟩
    · by_cases g3 : o i = 12
      · rw [if_neg g1, if_neg g2, if_pos g3]; exact ⟨1, rfl, Or.inl ⟨rfl, Or.inr (Or.inr g3)⟩⟩
      · rw [if_neg g1, if_neg g2, if_neg g3]
        refine ⟨0, rfl, Or.inr ⟨rfl, fun q => ?_⟩⟩
        rcases q with q | q | q
        · exact g1 q
        · exact g2 q
        · exact g3 q
theorem c_blk (hg : [p] ∈ gC) (h33 : 33 ≤ p) (hC : cC B L0 p nB nC W A o a b c) (hsl : s + l ≤ nC) : ∀ (n j : Nat) (R : Nat → Option Ty) (LC : List Ty) (M : sm_M) (N : Nat) (fl : Int32), j + n = l → cX B L0 FR h (s + j) N LC R M → N + swt o (s + j) n ≤ 800 → cFl o s j fl → ∃ (v : Int32) (LC' : List Ty) (M' : sm_M), jK_firstWrong_60 d0 d1 d2 p d4 (nI s) (nI l) fl (nI j) M = some (v, [d0, d1, d2, p, d4], M') ∧ pK nB W A o a b c h s l n R v ∧ cZ B L0 LC' M' := by
  have hC300 := hC.1
  intro n
  induction n with
  | zero =>
    intro j R LC M N fl hj hX hN hfl
    have ej : j = l := by omega
    subst ej
    unfold jK_firstWrong_60
    rcases hfl with ⟨rfl, f1, f2⟩ | ⟨rfl, f1⟩
    · refine ⟨-1, LC, M, sm_lp_end ?_, Or.inl ⟨f1, f2, rfl⟩, hX.1⟩
      show jK_firstWrong_60_c d0 d1 d2 p d4 (nI s) (nI j) 1 (nI j) M = _
      unfold jK_firstWrong_60_c jK_firstWrong_118
      rw [if_neg (nI_nlt (Nat.le_refl _) (by omega)), if_neg (by decide), dq_self]
      rfl
    · refine ⟨nI j, LC, M, sm_lp_end ?_, Or.inr ⟨f1, rfl⟩, hX.1⟩
      show jK_firstWrong_60_c d0 d1 d2 p d4 (nI s) (nI j) 0 (nI j) M = _
      unfold jK_firstWrong_60_c jK_firstWrong_118
      rw [if_neg (nI_nlt (Nat.le_refl _) (by omega)), if_pos rfl, dq_self]
      rfl
  | succ n ih =>
    intro j R LC M N fl hj hX hN hfl
    have ej : l - (n + 1) = j := by omega
    rcases hfl with ⟨rfl, f1, f2⟩ | ⟨rfl, f1⟩
    · refine ⟨nI j, LC, M, sm_lp_end ?_, Or.inl ?_, hX.1⟩
      · show jK_firstWrong_60_c d0 d1 d2 p d4 (nI s) (nI l) 1 (nI j) M = _
        unfold jK_firstWrong_60_c jK_firstWrong_82
        rw [if_pos (nI_lt (by omega) (by omega)), if_neg (by decide), dq_self]
        rfl
      · rw [ej]; exact ⟨⟨f1, f2⟩, rfl⟩
    · have hlt : nI j < nI l := nI_lt (by omega) (by omega)
      have hsw : swt o (s + j) (n + 1) = cwt (o (s + j)) + swt o (s + (j + 1)) n := rfl
      rcases c_ins (d0 := d0) (d1 := d1) (d2 := d2) (d4 := d4) hg h33 hC (show s + j < nC by omega) hX (by omega) with ⟨R', LC', M', j1, j2, j3⟩ | ⟨LC', M', j1, j2, j3⟩
      · obtain ⟨fl, e1, e2⟩ := c_ends (M := M') (D := [d0, d1, d2, p, d4]) o (s + j)
        have hfl' : cFl o s (j + 1) fl := by
          unfold cFl
          rw [show s + (j + 1) - 1 = s + j by omega]
          rcases e2 with ⟨q1, q2⟩ | ⟨q1, q2⟩
          · exact Or.inl ⟨q1, by omega, q2⟩
          · exact Or.inr ⟨q1, fun q => q2 q.2⟩
        obtain ⟨v, LC2, M2, k1, k2, k3⟩ := ih (j + 1) R' LC' M' (N + cwt (o (s + j))) fl (by omega) j3 (by omega) hfl'
        refine ⟨v, LC2, M2, ?_, Or.inr ⟨by rw [ej]; exact f1, Or.inl ⟨R', by rw [ej]; exact j2, k2⟩⟩, k3⟩
        rw [← k1]
        unfold jK_firstWrong_60
        refine sm_lp_eq ?_
        show jK_firstWrong_60_c d0 d1 d2 p d4 (nI s) (nI l) 0 (nI j) M = _
        unfold jK_firstWrong_60_c
        rw [if_pos hlt, if_pos rfl, ga_in hg, nI_add, j1, bi_some, dq_self, if_neg (by decide), ck_nI (by omega) (by decide), nI_clamp (by omega), show M' (p + 1) (s + j) = o (s + j) by rw [j3.row (by omega)]; exact (hC.2.2.2.1 (s + j) (by omega)).1, e1, bi_some, dq_self, dq_self, nI_1]
      · refine ⟨nI j, LC', M', ?_, Or.inr ⟨by rw [ej]; exact f1, Or.inr ⟨by rw [ej]; exact j2, by rw [ej]⟩⟩, j3⟩
        unfold jK_firstWrong_60
        refine sm_lp_end ?_
        show jK_firstWrong_60_c d0 d1 d2 p d4 (nI s) (nI l) 0 (nI j) M = _
        unfold jK_firstWrong_60_c jK_firstWrong_82
        rw [if_pos hlt, if_pos rfl, ga_in hg, nI_add, j1, bi_some, dq_self, if_pos rfl, dq_self]
        rfl
/-- the blocks' rows -/
def cB (B : sm_M) (p nB nC : Nat) (st le : Nat → Int32) : Prop := ∀ b, b < nB → ∃ s l : Nat, s + l ≤ nC ∧ B (p + 6) b = nI s ∧ st b = nI s ∧ B (p + 7) b = nI l ∧ le b = nI l
theorem fl_asked (hg : [p] ∈ gC) (h33 : 33 ≤ p) (hB40 : nB ≤ 40) (h11 : M p 11 = nI nB) {n k : Nat} {D : sm_D} (hn : n < nB) (hk : k < 3) : jC_askedType p (nI n) (nI (k + 1)) D M = some (M (p + 8) (3 * n + k), D, M) := by
  have hb : jC_hasBlock p (nI n) D M = some (1, D, M) := by
    rcases c_hasB (D := D) hB40 h11 (nI n) with ⟨_, -, -, q⟩ | ⟨q, -⟩
    · exact q
    · exact absurd ⟨nI_pos (by omega), nI_lt hn (by omega)⟩ q
  have e1 : (3 : Int32) * nI n + nI (k + 1) - 1 = nI (3 * n + k) := by
    rw [nI_3, nI_add, ← Nat.add_assoc, nI_pred]
  unfold jC_askedType jC_askedType_23 jC_askedType_44
  rw [ga_in hg, hb, bi_some, dq_self, if_neg (by decide), if_neg (show ¬ nI (k + 1) < 1 from nI_nlt (b := 1) (by omega) (by omega)), if_neg (show ¬ (3 : Int32) < nI (k + 1) from nI_nlt (a := 3) (by omega) (by decide)), eqp_self, if_neg (by decide), e1, ck_nI (by omega) (by decide), nI_clamp (by omega)]
/-- what stands at the beginning of a check -/
def cW (B : sm_M) (L0 FR : List Ty) (h : Nat) : Prop := (∀ a b, tyF a b ∈ L0 → tyR b ∈ FR) ∧ (∀ m, h ≤ m → ty_hid m ∉ L0) ∧ L0[0]? = some tyN ∧ ∀ t, t ∈ L0 → tyok t ∨ ∃ n, t = ty_hid n
theorem c_first (hg : [p] ∈ gC) (h33 : 33 ≤ p) (hC : cC B L0 p nB nC W A o a b c) (hB : cB B p nB nC st le) (hW : cW B L0 FR h) (hcap : ∀ s l, s + l ≤ nC → L0.length + cU L0 FR + swt o s l ≤ 800) (hT : tabC M L0) (hM : ∀ q, 8 < q → q ≠ 32 → M q = B q) {bk : Nat} (hb : bk < nB) : ∃ (v : Int32) (LC' : List Ty) (M' : sm_M), jK_firstWrong d0 d1 d2 p d4 (nI bk) M = some (v, [d0, d1, d2, p, d4], M') ∧ pK nB W A o a b c h (xN st bk) (xN le bk) (xN le bk) (pR0 A bk) v ∧ cZ B L0 LC' M' := by
  obtain ⟨hC300, hB40, h11, hrow, hA⟩ := id hC
  obtain ⟨s, l, s1, s2, s3, s4, s5⟩ := hB bk hb
  have xs : xN st bk = s := by unfold xN; rw [s3]; exact nI_clamp (by omega)
  have xl : xN le bk = l := by unfold xN; rw [s5]; exact nI_clamp (by omega)
  rw [xs, xl]
  have row : ∀ {N : sm_M}, (∀ q, q ≠ 32 → N q = M q) → ∀ {q : Nat}, 33 ≤ q → N q = B q := fun hN q hq => by rw [hN q (by omega)]; exact hM q (by omega) (by omega)
  have ha0 : ∀ {N : sm_M}, (∀ q, q ≠ 32 → N q = M q) → jC_askedType p (nI bk) 1 [d0, d1, d2, p, d4] N = some (B (p + 8) (3 * bk + 0), [d0, d1, d2, p, d4], N) := fun {N} hN => by
    have q := fl_asked (M := N) (k := 0) (D := [d0, d1, d2, p, d4]) hg h33 hB40 (by rw [row hN h33]; exact h11) hb (by decide)
    rw [row hN (by omega)] at q
    exact q
  have ha1 : ∀ {N : sm_M}, (∀ q, q ≠ 32 → N q = M q) → jC_askedType p (nI bk) 2 [d0, d1, d2, p, d4] N = some (B (p + 8) (3 * bk + 1), [d0, d1, d2, p, d4], N) := fun {N} hN => by
    have q := fl_asked (M := N) (k := 1) (D := [d0, d1, d2, p, d4]) hg h33 hB40 (by rw [row hN h33]; exact h11) hb (by decide)
    rw [row hN (by omega)] at q
    exact q
  have ha2 : ∀ {N : sm_M}, (∀ q, q ≠ 32 → N q = M q) → jC_askedType p (nI bk) 3 [d0, d1, d2, p, d4] N = some (B (p + 8) (3 * bk + 2), [d0, d1, d2, p, d4], N) := fun {N} hN => by
    have q := fl_asked (M := N) (k := 2) (D := [d0, d1, d2, p, d4]) hg h33 hB40 (by rw [row hN h33]; exact h11) hb (by decide)
    rw [row hN (by omega)] at q
    exact q
  have o0 : ∀ q, q ≠ 32 → flM M 32 6 (-1) q = M q := fun q hq => flM_ne hq
  have o1 : ∀ {y : Int32}, ∀ q, q ≠ 32 → sm_up (flM M 32 6 (-1)) 32 1 y q = M q := fun {y} q hq => by rw [up_ne hq]; exact o0 q hq
  have o2 : ∀ {y y' : Int32}, ∀ q, q ≠ 32 → sm_up (sm_up (flM M 32 6 (-1)) 32 1 y) 32 2 y' q = M q := fun {y y'} q hq => by rw [up_ne hq]; exact o1 q hq
  have o3 : ∀ {y y' y2 : Int32}, ∀ q, q ≠ 32 → sm_up (sm_up (sm_up (flM M 32 6 (-1)) 32 1 y) 32 2 y') 32 3 y2 q = M q := fun {y y' y2} q hq => by rw [up_ne hq]; exact o2 q hq
  have hX : cX B L0 FR h s (L0.length + cU L0 FR) L0 (pR0 A bk) (sm_up (sm_up (sm_up (flM M 32 6 (-1)) 32 1 (B (p + 8) (3 * bk + 0))) 32 2 (B (p + 8) (3 * bk + 1))) 32 3 (B (p + 8) (3 * bk + 2))) := by
    refine ⟨⟨tabC_o (fun q hq => o3 q (by omega)) hT, ⟨[], (List.append_nil _).symm⟩, fun q q1 q2 => by rw [o3 q q2]; exact hM q q1 q2⟩, Nat.le_refl _, hW.1, fun m hm => hW.2.1 _ (by omega), hW.2.2.1, hW.2.2.2, fun r r1 r5 => ?_⟩
    match r, r1, r5 with
    | 1, _, _ => rw [up_as (by decide), up_as (by decide), up_at]; exact hA (3 * bk + 0) (by omega)
    | 2, _, _ => rw [up_as (by decide), up_at]; exact hA (3 * bk + 1) (by omega)
    | 3, _, _ => rw [up_at]; exact hA (3 * bk + 2) (by omega)
    | 4, _, _ => rw [up_as (by decide), up_as (by decide), up_as (by decide), flM_at (by decide)]; exact Or.inl ⟨rfl, rfl⟩
    | 5, _, _ => rw [up_as (by decide), up_as (by decide), up_as (by decide), flM_at (by decide)]; exact Or.inl ⟨rfl, rfl⟩
  obtain ⟨v, LC', M', k1, k2, k3⟩ := c_blk (d0 := d0) (d1 := d1) (d2 := d2) (d4 := d4) (s := s) (l := l) hg h33 hC s1 l 0 (pR0 A bk) L0 _ (L0.length + cU L0 FR) 0 (by omega) hX (hcap s l s1) (Or.inr ⟨rfl, fun q => absurd q.1 (by decide)⟩)
  refine ⟨v, LC', M', ?_, k2, k3⟩
  have hbk : ∀ {N : sm_M}, (∀ q, q ≠ 32 → N q = M q) → jC_hasBlock p (nI bk) [d0, d1, d2, p, d4] N = some (1, [d0, d1, d2, p, d4], N) := fun {N} hN => by
    rcases c_hasB (Mc := N) (D := [d0, d1, d2, p, d4]) hB40 (by rw [row hN h33]; exact h11) (nI bk) with ⟨_, -, -, q⟩ | ⟨q, -⟩
    · exact q
    · exact absurd ⟨nI_pos (by omega), nI_lt hb (by omega)⟩ q
  have hst : ∀ {N : sm_M}, (∀ q, q ≠ 32 → N q = M q) → jC_startOf p (nI bk) [d0, d1, d2, p, d4] N = some (nI s, [d0, d1, d2, p, d4], N) := fun hN => by
    unfold jC_startOf jC_startOf_18
    rw [ga_in hg, hbk hN, bi_some, dq_self, if_neg (by decide), ck_nI (by omega) (by decide), nI_clamp (by omega), row hN (by omega), s2]
  have hle : ∀ {N : sm_M}, (∀ q, q ≠ 32 → N q = M q) → jC_lengthOf p (nI bk) [d0, d1, d2, p, d4] N = some (nI l, [d0, d1, d2, p, d4], N) := fun hN => by
    unfold jC_lengthOf jC_lengthOf_18
    rw [ga_in hg, hbk hN, bi_some, dq_self, if_neg (by decide), ck_nI (by omega) (by decide), nI_clamp (by omega), row hN (by omega), s4]
  unfold jK_firstWrong
  rw [ga_in (by decide), j_fill (by decide), bi_some, dq_self, dq_self]
  unfold jK_firstWrong_10
  refine Eq.trans (sm_lp_eq (s' := (nI bk, 2, sm_up (flM M 32 6 (-1)) 32 1 (B (p + 8) (3 * bk + 0)))) ?_) (Eq.trans (sm_lp_eq (s' := (nI bk, 3, sm_up (sm_up (flM M 32 6 (-1)) 32 1 (B (p + 8) (3 * bk + 0))) 32 2 (B (p + 8) (3 * bk + 1)))) ?_) (Eq.trans (sm_lp_eq (s' := (nI bk, 4, sm_up (sm_up (sm_up (flM M 32 6 (-1)) 32 1 (B (p + 8) (3 * bk + 0))) 32 2 (B (p + 8) (3 * bk + 1))) 32 3 (B (p + 8) (3 * bk + 2)))) ?_) (sm_lp_end ?_)))
  · show jK_firstWrong_10_c d0 d1 d2 p d4 (nI bk) 1 (flM M 32 6 (-1)) = _
    unfold jK_firstWrong_10_c
    rw [if_neg (by decide), ga_in hg, ha0 o0, bi_some, dq_self, ck_of ⟨by decide, by decide⟩]
    simp only [sm_wr, dq_self]
    rfl
  · show jK_firstWrong_10_c d0 d1 d2 p d4 (nI bk) 2 (sm_up (flM M 32 6 (-1)) 32 1 (B (p + 8) (3 * bk + 0))) = _
    unfold jK_firstWrong_10_c
    rw [if_neg (by decide), ga_in hg, ha1 o1, bi_some, dq_self, ck_of ⟨by decide, by decide⟩]
    simp only [sm_wr, dq_self]
    rfl
  · show jK_firstWrong_10_c d0 d1 d2 p d4 (nI bk) 3 (sm_up (sm_up (flM M 32 6 (-1)) 32 1 (B (p + 8) (3 * bk + 0))) 32 2 (B (p + 8) (3 * bk + 1))) = _
    unfold jK_firstWrong_10_c
    rw [if_neg (by decide), ga_in hg, ha2 o2, bi_some, dq_self, ck_of ⟨by decide, by decide⟩]
    simp only [sm_wr, dq_self]
    rfl
  · show jK_firstWrong_10_c d0 d1 d2 p d4 (nI bk) 4 (sm_up (sm_up (sm_up (flM M 32 6 (-1)) 32 1 (B (p + 8) (3 * bk + 0))) 32 2 (B (p + 8) (3 * bk + 1))) 32 3 (B (p + 8) (3 * bk + 2))) = _
    unfold jK_firstWrong_10_c
    rw [if_pos (by decide), ga_in hg, hst o3, bi_some, dq_self, ga_in hg, hle o3, bi_some, dq_self, dq_self, show (0 : Int32) = nI 0 from nI_0.symm]
    rw [show nI 0 = (0 : Int32) from nI_0] at k1 ⊢
    rw [k1]
    rfl
theorem c_ver (hg : [p] ∈ gC) (h33 : 33 ≤ p) (hC : cC B L0 p nB nC W A o a b c) (hB : cB B p nB nC st le) (hW : cW B L0 FR h) (hcap : ∀ s l, s + l ≤ nC → L0.length + cU L0 FR + swt o s l ≤ 800) : ∀ (n bk : Nat) (M : sm_M), bk + n = nB → tabC M L0 → (∀ q, 8 < q → q ≠ 32 → M q = B q) → ∃ (v : Int32) (M' : sm_M), jK_verdictOn_16 p d0 d1 d2 d3 d4 (nI bk) M = some (v, [d0, d1, d2, p, d4], M') ∧ pD nB W A o a b c st le h n v ∧ tabC M' L0 ∧ ∀ q, 8 < q → q ≠ 32 → M' q = B q := by
  have hB40 := hC.2.1
  have h11 := hC.2.2.1
  intro n
  induction n with
  | zero =>
    intro bk M hbk hT hM
    refine ⟨-1, M, ?_, rfl, hT, hM⟩
    unfold jK_verdictOn_16
    refine sm_lp_end ?_
    show jK_verdictOn_16_c p d0 d1 d2 d3 d4 (nI bk) M = _
    unfold jK_verdictOn_16_c
    rw [hM p (by omega) (by omega), h11, if_neg (nI_nlt (by omega) (by omega))]
  | succ n ih =>
    intro bk M hbk hT hM
    have eb : nB - (n + 1) = bk := by omega
    have hlt : nI bk < M p 11 := by rw [hM p (by omega) (by omega), h11]; exact nI_lt (by omega) (by omega)
    obtain ⟨w, LC', M1, j1, j2, j3⟩ := c_first (d0 := d0) (d1 := d1) (d2 := d2) (d4 := d4) hg h33 hC hB hW hcap hT hM (show bk < nB by omega)
    obtain ⟨z1, ⟨K, z2⟩, z3⟩ := j3
    rw [z2] at z1
    obtain ⟨M2, f1, f2, f3⟩ := j_forget (D := [d0, d1, d2, p, d4]) (L := L0) K.length K M1 rfl z1
    have hM2 : ∀ q, 8 < q → q ≠ 32 → M2 q = B q := fun q q1 q2 => by rw [f3 q q1]; exact z3 q q1 q2
    by_cases g : w = -1
    · obtain ⟨v, M', k1, k2, k3⟩ := ih (bk + 1) M2 (by omega) f2 hM2
      refine ⟨v, M', ?_, ⟨w, by rw [eb]; exact j2, Or.inl ⟨g, k2⟩⟩, k3⟩
      rw [← k1]
      unfold jK_verdictOn_16
      refine sm_lp_eq ?_
      show jK_verdictOn_16_c p d0 d1 d2 d3 d4 (nI bk) M = _
      unfold jK_verdictOn_16_c
      rw [if_pos hlt, ga_in hg, j1, bi_some, dq_self, hT.2.1, f1, bi_some, dq_self, if_pos g, dq_self, nI_1]
    · refine ⟨1000 * nI bk + w, M2, ?_, ⟨w, by rw [eb]; exact j2, Or.inr ⟨g, by rw [eb]⟩⟩, f2, hM2⟩
      unfold jK_verdictOn_16
      refine sm_lp_end ?_
      show jK_verdictOn_16_c p d0 d1 d2 d3 d4 (nI bk) M = _
      unfold jK_verdictOn_16_c
      rw [if_pos hlt, ga_in hg, j1, bi_some, dq_self, hT.2.1, f1, bi_some, dq_self, if_neg g]
theorem c_verdict (hg : [p] ∈ gC) (h33 : 33 ≤ p) (hC : cC B L0 p nB nC W A o a b c) (hB : cB B p nB nC st le) (hW : cW B L0 FR h) (hcap : ∀ s l, s + l ≤ nC → L0.length + cU L0 FR + swt o s l ≤ 800) (hT : tabC B L0) : ∃ (v : Int32) (M' : sm_M), jK_verdictOn p d0 d1 d2 d3 d4 B = some (v, [d0, d1, d2, p, d4], M') ∧ pVer nB W A o a b c st le h v ∧ tabC M' L0 ∧ ∀ q, 8 < q → q ≠ 32 → M' q = B q := by
  obtain ⟨hC300, hB40, h11, hrow, hA⟩ := id hC
  obtain ⟨v, M', k1, k2, k3, k4⟩ := c_ver (d0 := d0) (d1 := d1) (d2 := d2) (d3 := d3) (d4 := d4) hg h33 hC hB hW hcap nB 0 B (by omega) hT (fun _ _ _ => rfl)
  rw [nI_0] at k1
  have hno : ∀ {j : Option sm_S}, (¬ pBg nB A) → j = some (0, [d0, d1, d2, p, d4], B) → ∃ (v : Int32) (M' : sm_M), sm_bi j (fun x1 E1 M1 => sm_dq E1 [d0, d1, d2, p, d4] (if x1 = (0 : Int32) then (some ((0 : Int32), [d0, d1, d2, p, d4], M1)) else (sm_dq [d0, d1, d2, p, d4] [d0, d1, d2, p, d4] (jK_verdictOn_16 p d0 d1 d2 d3 d4 (0 : Int32) M1)))) = some (v, [d0, d1, d2, p, d4], M') ∧ pVer nB W A o a b c st le h v ∧ tabC M' L0 ∧ ∀ q, 8 < q → q ≠ 32 → M' q = B q := by
    intro j hb hj
    exact ⟨0, B, by rw [hj, bi_some, dq_self, if_pos rfl], Or.inl ⟨hb, rfl⟩, hT, fun _ _ _ => rfl⟩
  have hl : L0.length < 2 ^ 31 := by have := hT.1; omega
  have h0 : ty_pr L0 0 (some tyN) := Or.inr ⟨0, tyN, rfl, hW.2.2.1, nI_0.symm⟩
  unfold jK_verdictOn
  rw [ga_in hg]
  unfold jK_beginsRight jK_beginsRight_30 jK_beginsRight_60 jK_beginsRight_61
  have hga : ∀ {q : Option sm_S}, sm_ga [p] gC q = q := ga_in hg
  simp only [dq_self, bo_0, bo_1, hga]
  by_cases hn : 0 < nB
  · have a0 : jC_askedType p 0 1 [d0, d1, d2, p, d4] B = some (B (p + 8) 0, [d0, d1, d2, p, d4], B) := by
      have q := fl_asked (n := 0) (k := 0) (D := [d0, d1, d2, p, d4]) hg h33 hB40 h11 hn (by decide)
      rw [nI_0] at q
      exact q
    have a1 : jC_askedType p 0 2 [d0, d1, d2, p, d4] B = some (B (p + 8) 1, [d0, d1, d2, p, d4], B) := by
      have q := fl_asked (n := 0) (k := 1) (D := [d0, d1, d2, p, d4]) hg h33 hB40 h11 hn (by decide)
      rw [nI_0] at q
      exact q
    have a2 : jC_askedType p 0 3 [d0, d1, d2, p, d4] B = some (B (p + 8) 2, [d0, d1, d2, p, d4], B) := by
      have q := fl_asked (n := 0) (k := 2) (D := [d0, d1, d2, p, d4]) hg h33 hB40 h11 hn (by decide)
      rw [nI_0] at q
      exact q
    have hb0 : jC_hasBlock p 0 [d0, d1, d2, p, d4] B = some (1, [d0, d1, d2, p, d4], B) := by
      rcases c_hasB (D := [d0, d1, d2, p, d4]) hB40 h11 0 with ⟨_, -, -, q⟩ | ⟨q, -⟩
      · exact q
      · exact absurd ⟨by decide, nI_lt (a := 0) hn (by omega)⟩ q
    have e0 := ty_pr.m1 hl (hA 0 (by omega))
    have e0' := ty_pr.eq hl hT.2.2.1 (hA 0 (by omega)) h0
    have e1 := ty_pr.m1 hl (hA 1 (by omega))
    have e2 := ty_pr.m1 hl (hA 2 (by omega))
    rw [a0, bi_some, dq_self, hb0, bi_some, dq_self, if_neg (show ¬ (1 : Int32) = 0 by decide), a1, bi_some, dq_self]
    have hin : (A 0 = none ∨ A 0 = some tyN) → A 1 = none → A 2 = none → pVer nB W A o a b c st le h v := fun q0 q1 q2 => Or.inr ⟨⟨hn, q0, q1, q2⟩, k2⟩
    have hmid : ∀ {q0 : A 0 = none ∨ A 0 = some tyN}, ∃ (v : Int32) (M' : sm_M), sm_bi (if B (p + 8) 1 = (-1 : Int32) then (sm_bi (jC_askedType p 0 3 [d0, d1, d2, p, d4] B) (fun x2 E2 M2 => sm_dq E2 [d0, d1, d2, p, d4] (if x2 = (-1 : Int32) then (some ((1 : Int32), [d0, d1, d2, p, d4], M2)) else (some ((0 : Int32), [d0, d1, d2, p, d4], M2))))) else (some ((0 : Int32), [d0, d1, d2, p, d4], B))) (fun x1 E1 M1 => sm_dq E1 [d0, d1, d2, p, d4] (if x1 = (0 : Int32) then (some ((0 : Int32), [d0, d1, d2, p, d4], M1)) else (jK_verdictOn_16 p d0 d1 d2 d3 d4 (0 : Int32) M1))) = some (v, [d0, d1, d2, p, d4], M') ∧ pVer nB W A o a b c st le h v ∧ tabC M' L0 ∧ ∀ q, 8 < q → q ≠ 32 → M' q = B q := by
      intro q0
      by_cases g1 : B (p + 8) 1 = -1
      · rw [if_pos g1, a2, bi_some, dq_self]
        by_cases g2 : B (p + 8) 2 = -1
        · rw [if_pos g2, bi_some, dq_self, if_neg (by decide)]
          exact ⟨v, M', k1, hin q0 (e1.mp g1) (e2.mp g2), k3, k4⟩
        · rw [if_neg g2, bi_some, dq_self, if_pos rfl]
          exact ⟨0, B, rfl, Or.inl ⟨fun q => g2 (e2.mpr q.2.2.2), rfl⟩, hT, fun _ _ _ => rfl⟩
      · rw [if_neg g1, bi_some, dq_self, if_pos rfl]
        exact ⟨0, B, rfl, Or.inl ⟨fun q => g1 (e1.mpr q.2.2.1), rfl⟩, hT, fun _ _ _ => rfl⟩
    by_cases g0 : B (p + 8) 0 = -1
    · rw [if_pos g0]
      exact hmid (q0 := Or.inl (e0.mp g0))
    · rw [if_neg g0]
      by_cases g0' : B (p + 8) 0 = 0
      · rw [if_pos g0']
        exact hmid (q0 := Or.inr (e0'.mp g0'))
      · rw [if_neg g0', bi_some, dq_self, if_pos rfl]
        refine ⟨0, B, rfl, Or.inl ⟨fun q => ?_, rfl⟩, hT, fun _ _ _ => rfl⟩
        rcases q.2.1 with z | z
        · exact g0 (e0.mpr z)
        · exact g0' (e0'.mpr z)
  · have en : nB = 0 := by omega
    have hb0 : jC_hasBlock p 0 [d0, d1, d2, p, d4] B = some (0, [d0, d1, d2, p, d4], B) := by
      rcases c_hasB (D := [d0, d1, d2, p, d4]) hB40 h11 0 with ⟨j, q, -⟩ | ⟨-, q⟩
      · omega
      · exact q
    have a0 : jC_askedType p 0 1 [d0, d1, d2, p, d4] B = some (-1, [d0, d1, d2, p, d4], B) := by
      unfold jC_askedType jC_askedType_22 jC_askedType_23 jC_askedType_44
      rw [ga_in hg, hb0, bi_some, dq_self, if_pos rfl, eqp_self, eqp_self, if_pos rfl]
    rw [a0, bi_some, dq_self, hb0, bi_some, dq_self, if_pos rfl, bi_some, dq_self, if_pos rfl]
    exact ⟨0, B, rfl, Or.inl ⟨fun q => hn q.1, rfl⟩, hT, fun _ _ _ => rfl⟩
end
