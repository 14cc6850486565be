/-! the check, the reference's side: its state -/
def rZ (Bm : sm_M) (LM0 LR : List Ty) (M : sm_M) : Prop := tabM M LR ∧ (∃ K, LR = LM0 ++ K) ∧ (∀ q, 6 < q → q ≠ 53 → M q = Bm q) ∧ ∀ j, j ≠ 1 → M 1 j = Bm 1 j
def rX (Bm : sm_M) (LM0 : List Ty) (h i N : Nat) (LR : List Ty) (R : Nat → Option Ty) (M : sm_M) : Prop := rZ Bm LM0 LR M ∧ LR.length ≤ N ∧ (∀ m, i ≤ m → ty_hid (h + m) ∉ LR) ∧ LR[0]? = some tyN ∧ ∀ r, 1 ≤ r → r ≤ 5 → ty_pr LR (M 53 r) (R r)
/-- the reference's code -/
def rC (Bm : sm_M) (LM0 : List Ty) (nB nC : Nat) (W : Nat → Ty) (A : Nat → Option Ty) : Prop := nC ≤ 300 ∧ nB ≤ 40 ∧ Bm 1 38 = nI nB ∧ (∀ i, i < nC → (Bm 29 i = 7 → ty_pr LM0 (Bm 32 i) (some (W i)) ∧ wOk (W i)) ∧ frm (Bm 29 i) (Bm 30 i) (Bm 31 i) (Bm 32 i)) ∧ ∀ k, k < 3 * nB → ty_pr LM0 (Bm 35 k) (A k)
section
variable {Bm M : sm_M} {LM0 LR : List Ty} {h i N nB nC n : Nat} {W : Nat → Ty} {A : Nat → Option Ty} {R : Nat → Option Ty} {D : sm_D} {x y z : Int32} {o1 o2 o3 : Option Ty} {t : Ty}
theorem rX.tn (hX : rX Bm LM0 h i N LR R M) : ty_pr LR 0 (some tyN) := Or.inr ⟨0, tyN, rfl, hX.2.2.2.1, nI_0.symm⟩
theorem rX.lt (hX : rX Bm LM0 h i N LR R M) : LR.length < 2 ^ 31 := by
  have := hX.1.1.1
  omega
theorem rX.is0 (hX : rX Bm LM0 h i N LR R M) (hp : ty_pr LR x o1) : x = 0 ↔ o1 = some tyN := ty_pr.eq hX.lt hX.1.1.2.2.1 hp hX.tn
theorem ty_pr.neg {L : List Ty} (hl : L.length < 2 ^ 31) (hp : ty_pr L x o1) : x < 0 ↔ o1 = none := by
  rcases hp with ⟨e, q⟩ | ⟨j, u, e, hj, q⟩
  · exact ⟨fun _ => e, fun _ => by rw [q]; decide⟩
  · have := (List.getElem?_eq_some_iff.mp hj).1
    exact ⟨fun z => absurd (q ▸ z) (nI_pos (by omega)), fun z => by rw [e] at z; cases z⟩
theorem rX.mono {N' : Nat} (hX : rX Bm LM0 h i N LR R M) (hN : N ≤ N') : rX Bm LM0 h i N' LR R M := ⟨hX.1, by have := hX.2.1; omega, hX.2.2⟩
theorem rX.next (hX : rX Bm LM0 h i N LR R M) : rX Bm LM0 h (i + 1) N LR R M := ⟨hX.1, hX.2.1, fun m hm => hX.2.2.1 m (by omega), hX.2.2.2⟩
theorem rX.r1 (hX : rX Bm LM0 h i N LR R M) {k : Nat} (hk : 1 ≤ k ∧ k ≤ 5) : ty_pr LR (M 53 k) (R k) := hX.2.2.2.2 k hk.1 hk.2
theorem rX.up0 (hX : rX Bm LM0 h i N LR R M) (hp : ty_pr LM0 x o1) : ty_pr LR x o1 := by
  obtain ⟨K, e⟩ := hX.1.2.1
  rw [e]
  exact hp.grow
theorem rX.rgs {r : Nat} (hX : rX Bm LM0 h i N LR R M) (hp : ty_pr LR x o1) : rX Bm LM0 h i N LR (rg R r o1) (sm_up M 53 r x) := by
  obtain ⟨⟨a1, a2, a3, a4⟩, b, d, e, f⟩ := hX
  refine ⟨⟨tabM_o (fun q _ _ => up_ne (by omega)) (by rw [up_ne (by decide)]) a1, a2, fun q q1 q2 => by rw [up_ne q2]; exact a3 q q1 q2, fun j hj => by rw [up_ne (by decide)]; exact a4 j hj⟩, b, d, e, fun k k1 k5 => ?_⟩
  unfold rg
  by_cases g : k = r
  · subst g
    rw [if_pos rfl, up_at]
    exact hp
  · rw [if_neg g, up_as g]
    exact f k k1 k5
theorem rX.push {M' : sm_M} (hX : rX Bm LM0 h i N LR R M) (hT : tabM M' (LR ++ [t])) (ho : ∀ q, 6 < q → M' q = M q) (ho1 : ∀ j, j ≠ 1 → M' 1 j = M 1 j) {i' : Nat} (hi : i ≤ i') (hh : ∀ m, i' ≤ m → t ≠ ty_hid (h + m)) : rX Bm LM0 h i' (N + 1) (LR ++ [t]) R M' := by
  obtain ⟨⟨a1, ⟨K, a2⟩, a3, a4⟩, b, d, e, f⟩ := hX
  refine ⟨⟨hT, ⟨K ++ [t], by rw [a2, List.append_assoc]⟩, fun q q1 q2 => by rw [ho q q1]; exact a3 q q1 q2, fun j hj => by rw [ho1 j hj]; exact a4 j hj⟩, by rw [List.length_append]; show LR.length + 1 ≤ _; omega, fun m hm hmem => ?_, ?_, fun k k1 k5 => ?_⟩
  · rcases List.mem_append.mp hmem with hm' | hm'
    · exact d m (by omega) hm'
    · exact hh m hm (List.mem_singleton.mp hm').symm
  · rw [List.getElem?_append_left (List.getElem?_eq_some_iff.mp e).1]; exact e
  · rw [ho 53 (by decide)]; exact (f k k1 k5).grow
theorem r_fd (hX : rX Bm LM0 h i N LR R M) (hn : n < 5) (h1 : ty_pr LR x o1) (h2 : ty_pr LR y o2) (h3 : ty_pr LR z o3) (hN : N < 3000) : ∃ (w : Int32) (K : List Ty) (M' : sm_M), jR_find (nI n) x y z D M = some (w, D, M') ∧ ty_pr (LR ++ K) w (some (ty_mk n o1 o2 o3)) ∧ rX Bm LM0 h i (N + 1) (LR ++ K) R M' := by
  have hl := hX.2.1
  rcases r_find (D := D) hX.1.1 hn h1 h2 h3 (by omega) with ⟨r, hr, hj⟩ | ⟨hno, M', hj, hT, ho1, ho⟩
  · refine ⟨nI r, [], M, hj, ?_, ?_⟩
    · rw [List.append_nil]; exact Or.inr ⟨r, _, rfl, hr, rfl⟩
    · rw [List.append_nil]; exact hX.mono (by omega)
  · refine ⟨nI LR.length, [ty_mk n o1 o2 o3], M', hj, Or.inr ⟨LR.length, _, rfl, ?_, rfl⟩, hX.push hT ho ho1 (Nat.le_refl _) (fun m _ q => ty_mk_hid q)⟩
    rw [List.getElem?_append_right (Nat.le_refl _), Nat.sub_self]; rfl
theorem r_hid (hX : rX Bm LM0 h i N LR R M) (hN : N < 3000) : ∃ M', jR_find 5 (-1) (-1) (-1) D M = some (nI LR.length, D, M') ∧ rX Bm LM0 h (i + 1) (N + 1) (LR ++ [ty_hid (h + i)]) R M' := by
  have hl := hX.2.1
  have hT := hX.1.1
  have h71 := r_find_71 (D := D) (k := 5) (t := ty_hid (h + i)) hT (by omega) (Or.inl ⟨rfl, rfl⟩) (Or.inl ⟨rfl, rfl⟩) (Or.inl ⟨rfl, rfl⟩) rfl
  refine ⟨_, ?_, hX.push (tabM_push (k := 5) (a := -1) (b := -1) (c := -1) hT (by omega) (hX.2.2.1 i (Nat.le_refl _)) (Or.inr ⟨h + i, rfl, rfl, rfl, rfl, rfl⟩)) (fun q hq => apR_o hq) (fun j hj => apR_1o hj) (by omega) (fun m hm q => by have := ty_hid_inj q; omega)⟩
  unfold jR_find jR_find_3
  refine sm_lp_end ?_
  show jR_find_3_c 5 (-1) (-1) (-1) 0 D M = _
  unfold jR_find_3_c
  rw [if_pos (show (5 : Int32) = 5 from rfl), h71]
  by_cases g : (0 : Int32) < M 1 1
  · rw [if_pos g]; rfl
  · rw [if_neg g]; rfl
theorem tabM_kd (hT : tabM M LR) (hp : LR[n]? = some t) : M 2 n = nI (ty_kd t) ∧ ty_kd t ≤ 5 := by
  obtain ⟨hs, -⟩ := hT.2.2.2 n t hp
  rcases hs with ⟨k, q1, q2, q3, hk, rfl, e, -⟩ | ⟨k, rfl, e, -⟩
  · rw [kd_mk]; exact ⟨e, by omega⟩
  · rw [kd_hid]; exact ⟨e, Nat.le_refl _⟩
/-- a named type: its row -/
theorem r_at (hT : tabM M LR) (hp : ty_pr LR x (some t)) : ∃ j, x = nI j ∧ j < 3000 ∧ ¬ x < 0 ∧ x.toNatClampNeg = j ∧ (∀ {ρ : Type} {q : Option ρ}, sm_ck x 3000 q = q) ∧ LR[j]? = some t ∧ ∀ k : Nat, k < 5 → (M 2 j = nI k ↔ ∃ q1 q2 q3, t = ty_mk k q1 q2 q3) := by
  rcases hp with ⟨e, -⟩ | ⟨j, u, e, hj, rfl⟩
  · cases e
  · rw [← Option.some.inj e] at hj
    have hl := (List.getElem?_eq_some_iff.mp hj).1
    have h3 := hT.1
    refine ⟨j, rfl, by omega, nI_pos (by omega), nI_clamp (by omega), ck_nI (by omega) (by decide), hj, fun k hk => ?_⟩
    obtain ⟨hs, -⟩ := hT.2.2.2 j t hj
    obtain ⟨e2, h5⟩ := tabM_kd hT hj
    rw [e2]
    constructor
    · intro q
      have hk' : ty_kd t = k := nI_inj (by omega) (by omega) q
      rcases hs with ⟨m, q1, q2, q3, hm, rfl, -⟩ | ⟨m, rfl, -⟩
      · rw [kd_mk] at hk'
        subst hk'
        exact ⟨q1, q2, q3, rfl⟩
      · rw [kd_hid] at hk'
        omega
    · rintro ⟨q1, q2, q3, rfl⟩
      rw [kd_mk]
def rR (Bm : sm_M) (LM0 : List Ty) (h i N nB : Nat) (W : Nat → Ty) (A : Nat → Option Ty) (R : Nat → Option Ty) (j : Option sm_S) : Prop := (∃ (R' : Nat → Option Ty) (LR' : List Ty) (M' : sm_M), j = some (1, [], M') ∧ pS nB W A (Bm 29) (Bm 30) (Bm 31) (Bm 32) h i R R' ∧ rX Bm LM0 h (i + 1) (N + 3) LR' R' M') ∨ (∃ (LR' : List Ty) (M' : sm_M), j = some (0, [], M') ∧ (∀ R', ¬ pS nB W A (Bm 29) (Bm 30) (Bm 31) (Bm 32) h i R R') ∧ rZ Bm LM0 LR' M')
theorem rR_look {P : Prop} {j : Option sm_S} (hX : rX Bm LM0 h i N LR R M) (hz : rz P j [] M) (hP : ∀ R', pS nB W A (Bm 29) (Bm 30) (Bm 31) (Bm 32) h i R R' ↔ P ∧ R' = R) : rR Bm LM0 h i N nB W A R j := by
  by_cases g : P
  · exact Or.inl ⟨R, LR, M, hz.1 g, (hP R).mpr ⟨g, rfl⟩, hX.next.mono (by omega)⟩
  · exact Or.inr ⟨LR, M, hz.2 g, fun R' q => g ((hP R').mp q).1, hX.1⟩
theorem rR_no {j : Option sm_S} (hX : rX Bm LM0 h i N LR R M) (hj : j = some (0, [], M)) (hP : ∀ R', ¬ pS nB W A (Bm 29) (Bm 30) (Bm 31) (Bm 32) h i R R') : rR Bm LM0 h i N nB W A R j := Or.inr ⟨LR, M, hj, hP, hX.1⟩
/-- what one register must hold -/
theorem r_has1 {f g : sm_M → Option sm_S} {P : Prop} {k : Nat} (hX : rX Bm LM0 h i N LR R M) (hk : 1 ≤ k ∧ k ≤ 5) (hp : ty_pr LR x o1) (hf : rz P (f M) [] M) (hg : g M = some (0, [], M)) : rz ((o1 = none ∨ R k = o1) ∧ P) (if x < (0 : Int32) then f M else (sm_ck (nI k) 6 (if (M 53 (Int32.toNatClampNeg (nI k))) = x then f M else g M))) [] M := by
  have hm := ty_pr.neg hX.lt hp
  have he := ty_pr.eq hX.lt hX.1.1.2.2.1 (hX.r1 hk) hp
  rw [ck_nI (by omega) (by decide), nI_clamp (by omega)]
  by_cases g1 : x < 0
  · rw [if_pos g1]
    exact hf.iff ⟨fun q => ⟨Or.inl (hm.mp g1), q⟩, fun q => q.2⟩
  · rw [if_neg g1]
    by_cases g2 : M 53 k = x
    · rw [if_pos g2]
      exact hf.iff ⟨fun q => ⟨Or.inr (he.mp g2), q⟩, fun q => q.2⟩
    · rw [if_neg g2, hg]
      refine ⟨fun q => ?_, fun _ => rfl⟩
      rcases q.1 with q | q
      · exact absurd (hm.mpr q) g1
      · exact absurd (he.mpr q) g2
theorem r_has (hX : rX Bm LM0 h i N LR R M) (h1 : ty_pr LR x o1) (h2 : ty_pr LR y o2) (h3 : ty_pr LR z o3) : rz (pFit R o1 o2 o3) (jR_has x y z [] M) [] M := by
  have e0 : jR_has_46 [] M = some (0, [], M) := by unfold jR_has_46 jR_has_47; exact bo_0
  have e1 : rz True (jR_has_42 [] M) [] M := ⟨fun _ => by unfold jR_has_42 jR_has_47; exact bo_1, fun q => absurd trivial q⟩
  have q3 : rz ((o3 = none ∨ R 3 = o3) ∧ True) (jR_has_28 z [] M) [] M := r_has1 (f := fun M => jR_has_42 [] M) (g := fun M => jR_has_46 [] M) (k := 3) hX (by decide) h3 e1 e0
  have q2 : rz ((o2 = none ∨ R 2 = o2) ∧ ((o3 = none ∨ R 3 = o3) ∧ True)) (jR_has_14 y z [] M) [] M := r_has1 (f := fun M => jR_has_28 z [] M) (g := fun M => jR_has_46 [] M) (k := 2) hX (by decide) h2 q3 e0
  have q1 : rz ((o1 = none ∨ R 1 = o1) ∧ ((o2 = none ∨ R 2 = o2) ∧ ((o3 = none ∨ R 3 = o3) ∧ True))) (jR_has x y z [] M) [] M := r_has1 (f := fun M => jR_has_14 y z [] M) (g := fun M => jR_has_46 [] M) (k := 1) hX (by decide) h1 q2 e0
  exact q1.iff ⟨fun ⟨a, b, c, _⟩ => ⟨a, b, c⟩, fun ⟨a, b, c⟩ => ⟨a, b, c, trivial⟩⟩
theorem r_hasB (hC : rC Bm LM0 nB nC W A) (hX : rX Bm LM0 h i N LR R M) (hx : blk40 x) : rz (pBl nB A R x) (jR_hasBlock x [] M) [] M := by
  obtain ⟨n, hn, rfl⟩ := hx
  obtain ⟨hC300, hB40, h38, -, hA⟩ := hC
  have e35 : M 35 = Bm 35 := hX.1.2.2.1 35 (by decide) (by decide)
  have m38 : M 1 38 = nI nB := by rw [hX.1.2.2.2 38 (by decide)]; exact h38
  unfold jR_hasBlock jR_hasBlock_47 jR_hasBlock_48
  rw [m38]
  by_cases g : n < nB
  · have n1 : nI (3 * n) + 1 = nI (3 * n + 1) := nI_1 _
    have n2 : nI (3 * n) + 2 = nI (3 * n + 2) := nI_add (3 * n) 2
    rw [if_pos (nI_lt g (by omega)), nI_3, n1, n2, ck_nI (by omega) (by decide), ck_nI (by omega) (by decide), ck_nI (by omega) (by decide), nI_clamp (by omega), nI_clamp (by omega), nI_clamp (by omega), e35]
    have hz := r_has hX (hX.up0 (hA (3 * n) (by omega))) (hX.up0 (hA (3 * n + 1) (by omega))) (hX.up0 (hA (3 * n + 2) (by omega)))
    refine rz.iff (P := pFit R (A (3 * n)) (A (3 * n + 1)) (A (3 * n + 2))) ?_ ⟨fun q => ⟨n, g, rfl, q⟩, fun ⟨n', q1, q2, q3⟩ => ?_⟩
    · by_cases g2 : pFit R (A (3 * n)) (A (3 * n + 1)) (A (3 * n + 2))
      · rw [hz.1 g2, bi_some, dq_self, if_neg (by decide)]
        exact ⟨fun _ => bo_1, fun q => absurd g2 q⟩
      · rw [hz.2 g2, bi_some, dq_self, if_pos rfl]
        exact ⟨fun q => absurd q g2, fun _ => bo_0⟩
    · have : n = n' := nI_inj (by omega) (by omega) q2
      subst this
      exact q3
  · rw [if_neg (nI_nlt (by omega) (by omega))]
    refine ⟨fun ⟨n', q1, q2, _⟩ => ?_, fun _ => bo_0⟩
    have : n = n' := nI_inj (by omega) (by omega) q2
    omega
end
