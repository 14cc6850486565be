/-! compile: a body is recorded -/
def recM (M : sm_M) (i : Nat) (a b c d : Int32) : sm_M := sm_up (sm_up (sm_up (sm_up M 44 i a) 45 i b) 46 i c) 1 53 d
def recC (M : sm_M) (i : Nat) (a b c d : Int32) : sm_M := sm_up (sm_up (sm_up (sm_up M 28 i a) 29 i b) 30 i c) 24 9 d
section
variable {p nE d0 d1 d2 d3 : Nat} {B Bm : sm_M} {L LM0 FR : List Ty} {k0 : Nat} {Ex PB : List Nat} {nC nB cur nV nD N mV k r v e m m' n h kd s1 : Nat} {LC LR : List Ty} {W : Nat → Ty} {A : Nat → Option Ty} {TE : Nat → Ty} {BD : Nat → List Ty} {Mc Mm Mc' Mm' M : sm_M} {D : sm_D} {a b c d x x' y y' z z' : Int32} {t ta tb : Ty} {o1 o2 o3 ox : Option Ty}
theorem up_cm {q j q' j' : Nat} (h : q ≠ q' ∨ j ≠ j') : sm_up (sm_up M q j x) q' j' y = sm_up (sm_up M q' j' y) q j x := by
  funext r i
  by_cases g : q = q'
  · subst g
    have hj : j ≠ j' := h.elim (fun q => absurd rfl q) id
    by_cases g1 : r = q
    · subst g1
      by_cases g2 : i = j
      · subst g2; rw [up_as hj, up_at, up_at]
      · by_cases g3 : i = j'
        · subst g3; rw [up_at, up_as g2, up_at]
        · rw [up_as g3, up_as g2, up_as g2, up_as g3]
    · rw [up_ne g1, up_ne g1, up_ne g1, up_ne g1]
  · by_cases g1 : r = q
    · subst g1
      rw [up_ne g]
      by_cases g2 : i = j
      · subst g2; rw [up_at, up_at]
      · rw [up_as g2, up_as g2, up_ne g]
    · by_cases g2 : r = q'
      · subst g2
        rw [up_ne (M := sm_up M r j' y) g1]
        by_cases g3 : i = j'
        · subst g3; rw [up_at, up_at]
        · rw [up_as g3, up_as g3, up_ne g1]
      · rw [up_ne g2, up_ne g1, up_ne g1, up_ne g2]
theorem recM_up {q j i : Nat} (h : q < 44) (h1 : q ≠ 1 ∨ j ≠ 53) : recM (sm_up M q j x) i a b c d = sm_up (recM M i a b c d) q j x := by
  unfold recM
  rw [up_cm (M := M) (q := q) (q' := 44) (Or.inl (by omega)), up_cm (q := q) (q' := 45) (Or.inl (by omega)), up_cm (q := q) (q' := 46) (Or.inl (by omega)), up_cm (q := q) (q' := 1) (h1.elim Or.inl Or.inr)]
theorem recM_o {q i : Nat} (h : q ≠ 1) (h1 : q < 44 ∨ 46 < q) : recM M i a b c d q = M q := by
  unfold recM
  rw [up_ne h, up_ne (by omega), up_ne (by omega), up_ne (by omega)]
theorem recM_1 {j i : Nat} (h : j ≠ 53) : recM M i a b c d 1 j = M 1 j := by
  unfold recM
  rw [up_as h, up_ne (by decide), up_ne (by decide), up_ne (by decide)]
theorem recM_emM {i : Nat} {o a' b' c' : Int32} : emM (recM M i a b c d) n cur o a' b' c' = recM (emM M n cur o a' b' c') i a b c d := by
  unfold emM
  rw [recM_o (q := 34) (by decide) (by decide), recM_up (by decide) (Or.inr (by decide)), recM_up (by decide) (Or.inl (by decide)), recM_up (by decide) (Or.inl (by decide)), recM_up (by decide) (Or.inl (by decide)), recM_up (by decide) (Or.inl (by decide)), recM_up (by decide) (Or.inl (by decide)), recM_up (by decide) (Or.inr (by decide))]
theorem r_emR {i : Nat} {o a' b' c' : Int32} (h47 : M 1 47 = 0 ∨ M 1 47 = 1) (hn : n ≤ 300) (h39 : M 1 39 = nI n) (hc : cur < 41) (h54 : M 1 54 = nI cur) : ∃ M', jR_emit o a' b' c' [] M = some (0, [], M') ∧ jR_emit o a' b' c' [] (recM M i a b c d) = some (0, [], recM M' i a b c d) ∧ (M' 1 47 = 0 ∨ M' 1 47 = 1) ∧ (∃ n', n' ≤ 300 ∧ M' 1 39 = nI n') ∧ ∀ j, j ≠ 39 → j ≠ 47 → M' 1 j = M 1 j := by
  rcases h47 with h | h
  · by_cases g : n < 300
    · refine ⟨_, r_emit g hc h h39 h54, ?_, ?_, ⟨n + 1, by omega, emM_39⟩, fun j a b => emM_1 a b⟩
      · rw [r_emit g hc (by rw [recM_1 (by decide)]; exact h) (by rw [recM_1 (by decide)]; exact h39) (by rw [recM_1 (by decide)]; exact h54), recM_emM]
      · unfold emM
        rw [up_as (by decide), up_ne (by decide), up_ne (by decide), up_ne (by decide), up_ne (by decide), up_ne (by decide), up_at]
        exact Or.inl rfl
    · have e : n = 300 := by omega
      subst e
      refine ⟨_, em_full h h39, ?_, Or.inr up_at, ⟨300, Nat.le_refl _, by rw [up_as (by decide)]; exact h39⟩, fun j _ b => up_as b⟩
      rw [em_full (by rw [recM_1 (by decide)]; exact h) (by rw [recM_1 (by decide)]; exact h39), recM_up (by decide) (by decide)]
  · exact ⟨M, em_ov h, em_ov (by rw [recM_1 (by decide)]; exact h), Or.inr h, ⟨n, hn, h39⟩, fun _ _ _ => rfl⟩
theorem r_putsR {i : Nat} (hc : cur < 41) : ∀ (is : List (Nat × Int32 × Int32 × Int32 × Int32)) (M : sm_M), (M 1 47 = 0 ∨ M 1 47 = 1) → (∃ n, n ≤ 300 ∧ M 1 39 = nI n) → M 1 54 = nI cur → ∃ M', (∀ G : sm_M → Option sm_S, rPuts G is M = G M') ∧ (∀ G : sm_M → Option sm_S, rPuts G is (recM M i a b c d) = G (recM M' i a b c d)) ∧ ∀ j, j ≠ 39 → j ≠ 47 → M' 1 j = M 1 j
  | [], M, _, _, _ => ⟨M, fun _ => rfl, fun _ => rfl, fun _ _ _ => rfl⟩
  | s :: is, M, h47, ⟨n, hn, h39⟩, h54 => by
    obtain ⟨M1, e1, e2, e3, e4, e5⟩ := r_emR (i := i) (a := a) (b := b) (c := c) (d := d) (o := nI s.1) (a' := s.2.1) (b' := s.2.2.1) (c' := s.2.2.2.2) h47 hn h39 hc h54
    obtain ⟨M2, f1, f2, f3⟩ := r_putsR (i := i) hc is M1 e3 e4 (by rw [e5 54 (by decide) (by decide)]; exact h54)
    refine ⟨M2, fun G => ?_, fun G => ?_, fun j hj hj' => by rw [f3 j hj hj', e5 j hj hj']⟩
    · show sm_bi (jR_emit (nI s.1) s.2.1 s.2.2.1 s.2.2.2.2 [] M) _ = _
      rw [e1, bi_some, dq_self]
      exact f1 G
    · show sm_bi (jR_emit (nI s.1) s.2.1 s.2.2.1 s.2.2.2.2 [] (recM M i a b c d)) _ = _
      rw [e2, bi_some, dq_self]
      exact f2 G
theorem recC_o {q i : Nat} (h : q ≠ 24) (h1 : q < 28 ∨ 30 < q) : recC M i a b c d q = M q := by
  unfold recC
  rw [up_ne h, up_ne (by omega), up_ne (by omega), up_ne (by omega)]
theorem recC_24 {j i : Nat} (h : j ≠ 9) : recC M i a b c d 24 j = M 24 j := by
  unfold recC
  rw [up_as h, up_ne (by decide), up_ne (by decide), up_ne (by decide)]
theorem recC_r {i : Nat} : recC M i a b c d 28 = upd (M 28) i a ∧ recC M i a b c d 29 = upd (M 29) i b ∧ recC M i a b c d 30 = upd (M 30) i c := by
  unfold recC
  exact ⟨by rw [up_ne (by decide), up_ne (by decide), up_ne (by decide), sm_up_same], by rw [up_ne (by decide), up_ne (by decide), sm_up_same, up_ne (by decide)], by rw [up_ne (by decide), sm_up_same, up_ne (by decide), up_ne (by decide)]⟩
theorem recM_r {i : Nat} : recM M i a b c d 44 = upd (M 44) i a ∧ recM M i a b c d 45 = upd (M 45) i b ∧ recM M i a b c d 46 = upd (M 46) i c := by
  unfold recM
  exact ⟨by rw [up_ne (by decide), up_ne (by decide), up_ne (by decide), sm_up_same], by rw [up_ne (by decide), up_ne (by decide), sm_up_same, up_ne (by decide)], by rw [up_ne (by decide), sm_up_same, up_ne (by decide), up_ne (by decide)]⟩
/-- both sides record a body -/
theorem w_rec {nb tt : Nat} (hp : 40 ≤ p) (hS : wS p nE B Bm L LM0 FR k0 (nb :: Ex) PB nC nB cur nV nD LC LR W A TE BD Mc Mm) (hnb : nD + 2 ≤ nB) (he : e < nE) (hv : v < nV) (h10 : B 10 e = 6) (h11 : B 11 e = nI tt) (htt : L[tt]? = some (tyF ta tb)) (hT : pT (B 10) (B 11) (B 12) (B 13) (B 14) L m (ta :: tyF ta tb :: BD v) (xN (B 12) e) tb) : wS p nE B Bm L LM0 FR k0 Ex (PB ++ [nb]) nC nB cur nV (nD + 1) LC LR W A TE BD (recC Mc nD (nI e) (nI v) (nI nb) (nI (nD + 1))) (recM Mm nD (nI e) (nI v) (nI nb) (nI (nD + 1))) := by
  obtain ⟨⟨n1, n2, n3, n4, n5, n6⟩, ⟨t1, t2, t3, t4, t5, t6, t7, t8, t9, t10⟩, ⟨c6, c11, c12, c15, c5, c9⟩, ⟨m39, m52, m54, m47, m50, m53⟩, hR, ⟨⟨k1, k2, k3, k4, k5⟩, hcu⟩, hE, hB, fc, fr⟩ := hS
  have oC : ∀ q, q ≠ 24 → (q < 28 ∨ 30 < q) → recC Mc nD (nI e) (nI v) (nI nb) (nI (nD + 1)) q = Mc q := fun q a b => recC_o a b
  have oM : ∀ q, q ≠ 1 → (q < 44 ∨ 46 < q) → recM Mm nD (nI e) (nI v) (nI nb) (nI (nD + 1)) q = Mm q := fun q a b => recM_o a b
  have o1 : ∀ j, j ≠ 53 → recM Mm nD (nI e) (nI v) (nI nb) (nI (nD + 1)) 1 j = Mm 1 j := fun j a => recM_1 a
  have y29 := oM 29 (by decide) (by decide)
  have hmem : ∀ b, b ∈ Ex ++ (PB ++ [nb]) ↔ b ∈ nb :: Ex ++ PB := fun b => by
    simp only [List.mem_append, List.mem_cons, List.mem_singleton, List.not_mem_nil, or_false]
    constructor
    · rintro (q | q | q)
      · exact Or.inl (Or.inr q)
      · exact Or.inr q
      · exact Or.inl (Or.inl q)
    · rintro ((q | q) | q)
      · exact Or.inr (Or.inr q)
      · exact Or.inl q
      · exact Or.inr (Or.inl q)
  have hbo : ∀ b, wBo p nC LC LR A Mc Mm b → wBo p nC LC LR A (recC Mc nD (nI e) (nI v) (nI nb) (nI (nD + 1))) (recM Mm nD (nI e) (nI v) (nI nb) (nI (nD + 1))) b := by
    intro b h
    unfold wBo at h ⊢
    rw [oC (p + 6) (by omega) (by omega), oC (p + 7) (by omega) (by omega), oC (p + 8) (by omega) (by omega), oC (p + 9) (by omega) (by omega), oM 33 (by decide) (by decide), oM 34 (by decide) (by decide), oM 35 (by decide) (by decide)]
    exact h
  refine ⟨⟨n1, n2, n3, n4, by rw [y29]; exact n5, by omega⟩, ⟨tabC_o (fun q hq => oC q (by omega) (by omega)) t1, t2, tabM_o (fun q a b => oM q (by omega) (by omega)) (o1 1 (by decide)) t3, t4, by rw [y29]; exact t5, by rw [y29]; exact t6, t7, t8, t9, t10⟩, ⟨by rw [oC p (by omega) (by omega)]; exact c6, by rw [oC p (by omega) (by omega)]; exact c11, by rw [oC p (by omega) (by omega)]; exact c12, by rw [oC p (by omega) (by omega)]; exact c15, by rw [recC_24 (by decide)]; exact c5, up_at⟩, ⟨by rw [o1 39 (by decide)]; exact m39, by rw [o1 52 (by decide)]; exact m52, by rw [o1 54 (by decide)]; exact m54, by rw [o1 47 (by decide)]; exact m47, by rw [o1 50 (by decide)]; exact m50, up_at⟩, fun i hi => ?_, ⟨⟨fun b hb => (k1 b hb).elim (fun q => Or.inl (hbo b q)) (fun q => Or.inr ((hmem b).mpr q)), fun b hb => ?_, ?_, ?_, fun i b hb => ?_⟩, hbo cur hcu⟩, fun i hi => ?_, fun k hk => ?_, fc.of (fun q a b c => oC q (by omega) (by omega)), fr.of (fun q hq => oM q (by omega) (by omega)) (fun j a b c => o1 j (by omega))⟩
  · have := hR i hi
    unfold wRow at this ⊢
    rw [oC (p + 1) (by omega) (by omega), oC (p + 2) (by omega) (by omega), oC (p + 3) (by omega) (by omega), oC (p + 4) (by omega) (by omega), oC (p + 5) (by omega) (by omega), y29, oM 30 (by decide) (by decide), oM 31 (by decide) (by decide), oM 32 (by decide) (by decide)]
    exact this
  · rw [oC (p + 7) (by omega) (by omega)]
    exact k2 b ((hmem b).mp hb)
  · have hpm : (Ex ++ (PB ++ [nb])).Perm (nb :: Ex ++ PB) := by
      rw [← List.append_assoc]
      exact List.perm_append_comm
    exact hpm.nodup_iff.mpr k3
  · rw [List.length_append]
    show k0 + (PB.length + 1) = nD + 1
    omega
  · rw [recC_r.2.2]
    by_cases g : i < PB.length
    · rw [List.getElem?_append_left g] at hb
      rw [upd_ne (by omega)]
      exact k5 i b hb
    · have hi2 := (List.getElem?_eq_some_iff.mp hb).1
      rw [List.length_append] at hi2
      have hi3 : i = PB.length := by
        have : i < PB.length + 1 := hi2
        omega
      subst hi3
      rw [List.getElem?_append_right (Nat.le_refl _), Nat.sub_self] at hb
      rw [k4, upd_at, ← Option.some.inj hb]
  · have := hE i hi
    unfold wEv at this ⊢
    rw [oC 25 (by omega) (by omega), oC 26 (by omega) (by omega), oC 27 (by omega) (by omega), oM 40 (by decide) (by decide), oM 41 (by decide) (by decide), oM 42 (by decide) (by decide), oM 43 (by decide) (by decide)]
    exact this
  · unfold wBd
    rw [recC_r.1, recC_r.2.1, recC_r.2.2, recM_r.1, recM_r.2.1, recM_r.2.2]
    by_cases g : k = nD
    · subst g
      exact ⟨e, v, nb, tt, m, ta, tb, he, hv, (k2 nb (List.mem_cons_self ..)).1, upd_at, upd_at, upd_at, upd_at, upd_at, upd_at, h10, h11, htt, hT⟩
    · rw [upd_ne g, upd_ne g, upd_ne g, upd_ne g, upd_ne g, upd_ne g]
      exact hB k (by omega)
end
