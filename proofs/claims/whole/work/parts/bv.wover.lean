/-! compile: where it does not fit; the reference's own rows -/
section
variable {p nE : Nat} {B Bm : sm_M} {L LM0 FR : List Ty} {k0 : Nat} {Ex PB : List Nat} {nC nB cur nV nD N mV : Nat} {LC LR : List Ty} {W : Nat → Ty} {A : Nat → Option Ty} {TE : Nat → Ty} {BD : Nat → List Ty} {Mc Mm Mc' Mm' M : sm_M} {D : sm_D} {a b c a' b' c' x x' y y' z z' : Int32} {ox oa ob oc o1 o2 o3 : Option Ty}
theorem c_resO (hp : 40 ≤ p) (hO : wOc p B L LC N mV M) : ∃ x M', jC_reserve p D M = some (x, D, M') ∧ wOc p B L LC N mV M' := by
  obtain ⟨⟨hT, h25⟩, hK, h15, ⟨n, hn, h6⟩, ⟨m, hm, h11⟩, hF⟩ := id hO
  by_cases g : m < 40
  · exact ⟨nI m, _, c_reserve h11 g, ⟨tabC_o (fun q hq => rvC_o (by omega) (by omega)) hT, fun i hi => by rw [rvC_o (by omega) (by omega)]; exact h25 i hi⟩, hK, by rw [rvC_p (by decide)]; exact h15, ⟨n, hn, by rw [rvC_p (by decide)]; exact h6⟩, ⟨m + 1, by omega, up_at⟩, hF.of (fun q a b c => rvC_o (by omega) (by omega))⟩
  · have e : m = 40 := by omega
    subst e
    refine ⟨-1, M, ?_, hO⟩
    unfold jC_reserve
    rw [h11, if_pos (show nI 40 = 40 from rfl), bo_1]
    simp only [sm_wr]
    rw [up_ida h15]
theorem c_openO (hg : [p] ∈ gC) (hp : 40 ≤ p) (hO : wOc p B L LC N mV M) (ha : ty_pr LC a oa) (hb : ty_pr LC b ob) (hc : ty_pr LC c oc) : ∃ M', jC_open p x a b c D M = some (0, D, M') ∧ wOc p B L LC N mV M' := by
  obtain ⟨⟨hT, h25⟩, hK, h15, ⟨n, hn, h6⟩, ⟨m, hm, h11⟩, hF⟩ := id hO
  rcases c_hasB (D := D) hm h11 x with ⟨j, hj, rfl, -⟩ | ⟨-, hb⟩
  · exact ⟨_, k_open hg hp hj hm h11 hT ha hb hc, ⟨tabC_o (fun q hq => opC_o (by omega) (by omega) (by omega) (by omega)) hT, fun i hi => by rw [opC_o (by omega) (by omega) (by omega) (by omega)]; exact h25 i hi⟩, hK, by rw [opC_p (by decide)]; exact h15, ⟨n, hn, by rw [opC_p (by decide)]; exact h6⟩, ⟨m, hm, by rw [opC_p (by decide)]; exact h11⟩, hF.of (fun q a b c => opC_o (by omega) (by omega) (by omega) (by omega))⟩
  · refine ⟨M, ?_, hO⟩
    unfold jC_open
    rw [ga_in hg, hb, bi_some, dq_self, if_pos rfl]
theorem c_findO {n : Nat} (hp : 40 ≤ p) (hO : wOc p B L LC N mV M) (hN : N < 800) (hn : n < 5) (h1 : ty_pr LC x o1) (h2 : ty_pr LC y o2) (h3 : ty_pr LC z o3) : ∃ w K M', jT_find (nI n) x y z D M = some (w, D, M') ∧ ty_pr (LC ++ K) w (some (ty_mk n o1 o2 o3)) ∧ wOc p B L (LC ++ K) (N + 1) mV M' := by
  obtain ⟨⟨hT, h25⟩, ⟨⟨K0, hK0⟩, hl⟩, h15, ⟨m, hm, h6⟩, ⟨k, hk, h11⟩, hF⟩ := id hO
  rcases j_find (D := D) hT hn h1 h2 h3 with ⟨r, hr, hj⟩ | ⟨hno, hlt, M', hj, hT', ho⟩ | ⟨hno, hlen, -⟩
  · refine ⟨nI r, [], M, hj, by rw [List.append_nil]; exact Or.inr ⟨r, _, rfl, hr, rfl⟩, ?_⟩
    rw [List.append_nil]
    exact ⟨⟨hT, h25⟩, ⟨⟨K0, hK0⟩, by omega⟩, h15, ⟨m, hm, h6⟩, ⟨k, hk, h11⟩, hF⟩
  · refine ⟨nI LC.length, [ty_mk n o1 o2 o3], M', hj, Or.inr ⟨LC.length, _, rfl, by rw [List.getElem?_append_right (Nat.le_refl _), Nat.sub_self]; rfl, rfl⟩, ⟨hT', fun i hi => by rw [ho 25 (by decide)]; obtain ⟨o, h, h0⟩ := h25 i hi; exact ⟨o, h.grow, h0⟩⟩, ⟨⟨K0 ++ [ty_mk n o1 o2 o3], by rw [hK0, List.append_assoc]⟩, by rw [List.length_append]; show LC.length + 1 ≤ _; omega⟩, by rw [ho p (by omega)]; exact h15, ⟨m, hm, by rw [ho p (by omega)]; exact h6⟩, ⟨k, hk, by rw [ho p (by omega)]; exact h11⟩, hF.of (fun q a b c => ho q a)⟩
  · omega
theorem c_extO {d0 d1 d2 d3 : Nat} (hO : wOc p B L LC N mV M) : jW_extend d0 d1 d2 d3 p a b c M = some (a, [d0, d1, d2, d3, p], M) := by
  unfold jW_extend jW_extend_20
  rw [hO.2.2.1, if_neg (by decide), dq_self]
/-- a row's parts are named -/
theorem c_anyP (hT : tabC M LC) (hx : ty_pr LC x ox) : (∃ y oy, (∀ {D : sm_D}, jT_firstOf x D M = some (y, D, M)) ∧ ty_pr LC y oy) ∧ ∃ y oy, (∀ {D : sm_D}, jT_secondOf x D M = some (y, D, M)) ∧ ty_pr LC y oy := by
  have tk : ∀ {j : Nat} {y : Int32} {oy : Option Ty}, ty_pr (LC.take j) y oy → ty_pr LC y oy := fun {j y oy} h => by
    have := h.grow (K := LC.drop j)
    rwa [List.take_append_drop] at this
  rcases hx with ⟨-, rfl⟩ | ⟨j, u, -, hj, rfl⟩
  · exact ⟨⟨-1, none, j_firstOf_m1, Or.inl ⟨rfl, rfl⟩⟩, ⟨-1, none, j_secondOf_m1, Or.inl ⟨rfl, rfl⟩⟩⟩
  · obtain ⟨hs, -⟩ := hT.2.2.2.1 j u hj
    rcases hs with ⟨k, q1, q2, q3, hk, -, -, e1, e2, e3⟩ | ⟨k, -, -, e1, e2, e3⟩
    · exact ⟨⟨_, q1, j_firstOf hT hj, tk e1⟩, ⟨_, q2, j_secondOf hT hj, tk e2⟩⟩
    · exact ⟨⟨_, some u, j_firstOf hT hj, by rw [e1]; exact Or.inr ⟨j, u, rfl, hj, rfl⟩⟩, ⟨_, none, j_secondOf hT hj, Or.inl ⟨rfl, e2⟩⟩⟩
/-- the reference's work and results are no part of the relation -/
theorem wS_w (hS : wS p nE B Bm L LM0 FR k0 Ex PB nC nB cur nV nD LC LR W A TE BD Mc Mm) (ho : ∀ q, q ≠ 1 → (q < 36 ∨ 39 < q) → Mm' q = Mm q) (h1 : ∀ j, j ≠ 48 → j ≠ 49 → j ≠ 51 → Mm' 1 j = Mm 1 j) : wS p nE B Bm L LM0 FR k0 Ex PB nC nB cur nV nD LC LR W A TE BD Mc Mm' := by
  obtain ⟨⟨n1, n2, n3, n4, n5, n6⟩, ⟨t1, t2, t3, t4, t5, t6, t7, t8, t9, t10⟩, hc, ⟨m39, m52, m54, m47, m50, m53⟩, hR, ⟨⟨k1, k2, k3, k4, k5⟩, hcu⟩, hE, hB, fc, fr⟩ := hS
  have y29 := ho 29 (by decide) (by decide)
  have hbo : ∀ b, wBo p nC LC LR A Mc Mm b → wBo p nC LC LR A Mc Mm' b := by
    intro b h
    unfold wBo at h ⊢
    rw [ho 33 (by decide) (by decide), ho 34 (by decide) (by decide), ho 35 (by decide) (by decide)]
    exact h
  refine ⟨⟨n1, n2, n3, n4, by rw [y29]; exact n5, n6⟩, ⟨t1, t2, tabM_o (fun q a b => ho q (by omega) (by omega)) (h1 1 (by decide) (by decide) (by decide)) t3, t4, by rw [y29]; exact t5, by rw [y29]; exact t6, t7, t8, t9, t10⟩, hc, ⟨by rw [h1 39 (by decide) (by decide) (by decide)]; exact m39, by rw [h1 52 (by decide) (by decide) (by decide)]; exact m52, by rw [h1 54 (by decide) (by decide) (by decide)]; exact m54, by rw [h1 47 (by decide) (by decide) (by decide)]; exact m47, by rw [h1 50 (by decide) (by decide) (by decide)]; exact m50, by rw [h1 53 (by decide) (by decide) (by decide)]; exact m53⟩, fun i hi => ?_, ⟨⟨fun b hb => (k1 b hb).elim (fun q => Or.inl (hbo b q)) Or.inr, k2, k3, k4, k5⟩, hbo cur hcu⟩, fun i hi => ?_, fun k hk => ?_, fc, fr.of (fun q hq => ho q (by omega) (by omega)) (fun j a b c => h1 j (by omega) (by omega) (by omega))⟩
  · have := hR i hi
    unfold wRow at this ⊢
    rw [y29, ho 30 (by decide) (by decide), ho 31 (by decide) (by decide), ho 32 (by decide) (by decide)]
    exact this
  · have := hE i hi
    unfold wEv at this ⊢
    rw [ho 40 (by decide) (by decide), ho 41 (by decide) (by decide), ho 42 (by decide) (by decide), ho 43 (by decide) (by decide)]
    exact this
  · have := hB k hk
    unfold wBd at this ⊢
    rw [ho 44 (by decide) (by decide), ho 45 (by decide) (by decide), ho 46 (by decide) (by decide)]
    exact this
theorem wOr_w (hO : wOr Bm LM0 LR M) (ho : ∀ q, q ≠ 1 → (q < 36 ∨ 46 < q) → Mm' q = M q) (h1 : ∀ j, (j < 48 ∨ 54 < j) → Mm' 1 j = M 1 j) : wOr Bm LM0 LR Mm' := ⟨tabM_o (fun q a b => ho q (by omega) (by omega)) (h1 1 (by decide)) hO.1, hO.2.1, by rw [h1 47 (by decide)]; exact hO.2.2.1, hO.2.2.2.of (fun q hq => ho q (by omega) (by omega)) (fun j a b c => h1 j (by omega))⟩
/-- a result is pushed, popped -/
def rPu (M : sm_M) (r : Nat) (x : Int32) : sm_M := sm_up (sm_up M 39 r x) 1 49 (nI (r + 1))
theorem r_fin {r : Nat} (hr : r < 400) (h49 : M 1 49 = nI r) : jR_finish x [] M = some (0, [], rPu M r x) := by
  unfold jR_finish
  simp only [sm_wr]
  rw [h49, ck_nI hr (by decide), nI_clamp (by omega), up_ne (show (1 : Nat) ≠ 39 by decide), h49, nI_1]
  rfl
theorem rPu_o {r q : Nat} (a : q ≠ 1) (b : q ≠ 39) : rPu M r x q = M q := by unfold rPu; rw [up_ne a, up_ne b]
theorem rPu_1 {r j : Nat} (a : j ≠ 49) : rPu M r x 1 j = M 1 j := by unfold rPu; rw [up_as a, up_ne (by decide)]
theorem rPu_49 {r : Nat} : rPu M r x 1 49 = nI (r + 1) := up_at
theorem rPu_39 {r : Nat} : rPu M r x 39 = upd (M 39) r x := by unfold rPu; rw [up_ne (by decide), sm_up_same]
theorem r_done {r : Nat} (hr : r < 400) (h49 : M 1 49 = nI (r + 1)) : jR_doneLast [] M = some (M 39 r, [], sm_up M 1 49 (nI r)) := by
  unfold jR_doneLast
  simp only [sm_wr]
  rw [h49, nI_pred, up_at, ck_nI hr (by decide), nI_clamp (by omega), up_ne (show (39 : Nat) ≠ 1 by decide)]
def rLa (M : sm_M) (k : Nat) (x y z : Int32) : sm_M := sm_up (sm_up (sm_up (sm_up M 36 k x) 37 k y) 38 k z) 1 48 (nI (k + 1))
theorem r_later {k : Nat} (hk : k < 400) (h48 : M 1 48 = nI k) : jR_doLater x y z [] M = some (0, [], rLa M k x y z) := by
  have u1 : ∀ {N : sm_M} {q j : Nat} {w : Int32}, 1 ≠ q → sm_up N q j w 1 = N 1 := fun h => up_ne h
  unfold jR_doLater
  simp only [sm_wr, u1 (show (1 : Nat) ≠ 36 by decide), u1 (show (1 : Nat) ≠ 37 by decide), u1 (show (1 : Nat) ≠ 38 by decide), h48, nI_1]
  rw [ck_nI hk (by decide), ck_nI hk (by decide), ck_nI hk (by decide), nI_clamp (by omega)]
  rfl
theorem rLa_o {k q : Nat} (a : q ≠ 1) (b : q < 36 ∨ 38 < q) : rLa M k x y z q = M q := by unfold rLa; rw [up_ne a, up_ne (by omega), up_ne (by omega), up_ne (by omega)]
theorem rLa_1 {k j : Nat} (a : j ≠ 48) : rLa M k x y z 1 j = M 1 j := by unfold rLa; rw [up_as a, up_ne (by decide), up_ne (by decide), up_ne (by decide)]
theorem rLa_48 {k : Nat} : rLa M k x y z 1 48 = nI (k + 1) := up_at
theorem rLa_at {k : Nat} : rLa M k x y z 36 k = x ∧ rLa M k x y z 37 k = y ∧ rLa M k x y z 38 k = z := by
  unfold rLa
  exact ⟨by rw [up_ne (by decide), up_ne (by decide), up_ne (by decide), up_at], by rw [up_ne (by decide), up_ne (by decide), up_at], by rw [up_ne (by decide), up_at]⟩
theorem rLa_as {k j : Nat} (h : j ≠ k) : rLa M k x y z 36 j = M 36 j ∧ rLa M k x y z 37 j = M 37 j ∧ rLa M k x y z 38 j = M 38 j := by
  unfold rLa
  exact ⟨by rw [up_ne (by decide), up_ne (by decide), up_ne (by decide), up_as h], by rw [up_ne (by decide), up_ne (by decide), up_as h, up_ne (by decide)], by rw [up_ne (by decide), up_as h, up_ne (by decide), up_ne (by decide)]⟩
/-- the loop of the work -/
theorem w_loop {k : Nat} (hk : k < 400) (h48 : M 1 48 = nI (k + 1)) (h47 : M 1 47 = 0) (h : jR_doNext [] M = some (x, [], Mm')) : jR_writeAll_12 [] M = jR_writeAll_12 [] Mm' := by
  unfold jR_writeAll_12
  refine sm_lp_eq ?_
  show jR_writeAll_12_c [] M = _
  unfold jR_writeAll_12_c
  rw [h48, if_pos (show (0 : Int32) < nI (k + 1) from nI_lt (a := 0) (by omega) (by omega)), h47, if_pos rfl, h, bi_some, dq_self, dq_self]
theorem w_stop (h47 : M 1 47 = 1) : jR_writeAll_12 [] M = some (0, [], M) := by
  unfold jR_writeAll_12
  refine sm_lp_end ?_
  show jR_writeAll_12_c [] M = _
  unfold jR_writeAll_12_c jR_writeAll_33
  rw [h47, if_neg (show ¬ (1 : Int32) = 0 by decide)]
  by_cases g : (0 : Int32) < M 1 48
  · rw [if_pos g]; rfl
  · rw [if_neg g]; rfl
theorem w_end (h48 : M 1 48 = 0) : jR_writeAll_12 [] M = some (0, [], M) := by
  unfold jR_writeAll_12
  refine sm_lp_end ?_
  show jR_writeAll_12_c [] M = _
  unfold jR_writeAll_12_c jR_writeAll_33
  rw [h48, if_neg (by decide)]
  rfl
end
