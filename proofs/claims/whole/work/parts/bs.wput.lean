/-! compile: an instruction -/
section
variable {p nE : Nat} {B Bm : sm_M} {L LM0 FR : List Ty} {k0 : Nat} {Ex PB : List Nat} {nC nB cur nV nD N mV : Nat} {LC LR : List Ty} {W : Nat → Ty} {A : Nat → Option Ty} {TE : Nat → Ty} {BD : Nat → List Ty} {Mc Mm Mc' Mm' M : sm_M} {D : sm_D} {a b c c' x : Int32} {ox : Option Ty}
theorem wFc.of (h : wFc B p M) {M' : sm_M} (ho : ∀ q, 8 < q → (q < 24 ∨ 30 < q) → (q < p ∨ p + 9 < q) → M' q = M q) : wFc B p M' := fun q a b c => by rw [ho q a b c]; exact h q a b c
/-- the class puts when it does not fit -/
theorem c_putO {o : Nat} (hg : [p] ∈ gC) (hp : 40 ≤ p) (hO : wOc p B L LC N mV M) (ho : o ≤ 12) (hw : o = 7 → ∃ w, ty_pr LC c (some w)) : ∃ M', jC_put p (nI o) a b c D M = some (0, D, M') ∧ wOc p B L LC N mV M' := by
  obtain ⟨⟨hT, h25⟩, hK, h15, ⟨n, hn, h6⟩, ⟨m, hm, h11⟩, hF⟩ := id hO
  have h21 : jC_put_21 p D M = some (0, D, M) := by
    unfold jC_put_21
    rw [bo_1]
    simp only [sm_wr]
    rw [up_ida h15]
  by_cases g : n = 300
  · refine ⟨M, ?_, hO⟩
    unfold jC_put
    rw [h6, g, if_pos (show nI 300 = 300 from rfl), eqp_self, h21]
  · have n3 : ¬ nI n = (300 : Int32) := fun q => g (nI_inj (by omega) (by decide) (show nI n = nI 300 from q))
    rcases c_hasB (D := D) hm h11 (M p 12) with ⟨cur, hcur, h12, -⟩ | ⟨-, hb⟩
    · obtain ⟨w, hw'⟩ : ∃ w : Ty, o = 7 → ty_pr LC c (some w) := by
        by_cases h7 : o = 7
        · obtain ⟨w, hx⟩ := hw h7
          exact ⟨w, fun _ => hx⟩
        · exact ⟨tyN, fun q => absurd q h7⟩
      refine ⟨_, c_put hg hp ho (by omega) hcur hm h6 h11 h12 hT hw', ⟨tabC_o (fun q hq => piC_o (by omega) (by omega)) hT, fun i hi => by rw [piC_o (by omega) (by omega)]; exact h25 i hi⟩, hK, by rw [piC_p (by decide)]; exact h15, ⟨n + 1, by omega, piC_6⟩, ⟨m, hm, by rw [piC_p (by decide)]; exact h11⟩, hF.of (fun q a b c => piC_o (by omega) (by omega))⟩
    · refine ⟨M, ?_, hO⟩
      unfold jC_put
      rw [h6, if_neg n3, ga_in hg, hb, bi_some, dq_self, if_pos rfl, eqp_self, h21]
/-- both sides write one instruction -/
theorem w_put {o : Nat} (hg : [p] ∈ gC) (hp : 40 ≤ p) (hS : wS p nE B Bm L LM0 FR k0 Ex PB nC nB cur nV nD LC LR W A TE BD Mc Mm) (hLN : LC.length ≤ N) (ho : o ≤ 12) (z0 : zf (fm o 0) a = a) (z1 : zf (fm o 1) b = b) (z2 : zf (fm o 2) c = c) (hf : frm (nI o) a b c') (h7 : o ≠ 7 → c' = c) (hw : o = 7 → ∃ w, ty_pr LC c (some w) ∧ ty_pr LR c' (some w) ∧ wOk w) :
    (∃ (W' : Nat → Ty) (Mc' Mm' : sm_M), jC_put p (nI o) a b c D Mc = some (0, D, Mc') ∧ jR_emit (nI o) a b c' [] Mm = some (0, [], Mm') ∧ wS p nE B Bm L LM0 FR k0 Ex PB (nC + 1) nB cur nV nD LC LR W' A TE BD Mc' Mm' ∧ ct4 (Mm' 29) (nC + 1) = ct4 (Mm 29) nC + (if o = 4 then 1 else 0) ∧ (∀ q, 35 < q → Mm' q = Mm q) ∧ ∀ j, j ≠ 39 → Mm' 1 j = Mm 1 j) ∨
    (∃ (Mc' : sm_M), jC_put p (nI o) a b c D Mc = some (0, D, Mc') ∧ wOc p B L LC N nV Mc' ∧ jR_emit (nI o) a b c' [] Mm = some (0, [], sm_up Mm 1 47 1) ∧ wOr Bm LM0 LR (sm_up Mm 1 47 1)) := by
  obtain ⟨⟨n1, n2, n3, n4, n5, n6⟩, ⟨t1, t2, t3, t4, t5, t6, t7, t8, t9, t10⟩, ⟨c6, c11, c12, c15, c5, c9⟩, ⟨m39, m52, m54, m47, m50, m53⟩, hR, ⟨hK, hcu⟩, hE, hB, fc, fr⟩ := hS
  by_cases g : nC < 300
  · obtain ⟨w, hw'⟩ : ∃ w : Ty, o = 7 → ty_pr LC c (some w) ∧ ty_pr LR c' (some w) ∧ wOk w := by
      by_cases h7' : o = 7
      · obtain ⟨w, hx⟩ := hw h7'
        exact ⟨w, fun _ => hx⟩
      · exact ⟨tyN, fun q => absurd q h7'⟩
    have e1 := c_put (D := D) (a := a) (b := b) (c := c) hg hp ho g n3 n2 c6 c11 c12 t1 (fun q => (hw' q).1)
    have e2 := r_emit (D := []) (k := nI o) (a := a) (b := b) (c := c') g (by omega) m47 m39 m54
    rw [z0, z1, z2] at e1
    have o7 : nI o = 7 ↔ o = 7 := ⟨fun q => nI_inj (by omega) (by decide) (show nI o = nI 7 from q), fun q => by rw [q]; rfl⟩
    have o4 : nI o = 4 ↔ o = 4 := ⟨fun q => nI_inj (by omega) (by decide) (show nI o = nI 4 from q), fun q => by rw [q]; rfl⟩
    have k4 : ct4 (emM Mm nC cur (nI o) a b c' 29) (nC + 1) = ct4 (Mm 29) nC + (if o = 4 then 1 else 0) := by
      rw [emM_29, ct4_up]
      by_cases q : o = 4
      · rw [if_pos q, if_pos (o4.mpr q)]
      · rw [if_neg q, if_neg (fun z => q (o4.mp z))]
    have hbo : ∀ k, wBo p nC LC LR A Mc Mm k → wBo p (nC + 1) LC LR A (piC Mc p nC cur (nI o) a b c (if o = 7 then nI (ty_sz w) else c)) (emM Mm nC cur (nI o) a b c') k := by
      intro k ⟨⟨s, l, q0, q1, q2, q3, q4⟩, qa⟩
      refine ⟨?_, fun i hi => ?_⟩
      · rw [piC_o (by omega) (by omega), piC_7, emM_o (by decide) (by decide), emM_34]
        by_cases e : k = cur
        · subst e
          rw [upd_at, upd_at, q3, q4]
          exact ⟨s, l + 1, by omega, q1, q2, nI_1 l, nI_1 l⟩
        · rw [upd_ne e, upd_ne e]
          exact ⟨s, l, by omega, q1, q2, q3, q4⟩
      · rw [piC_o (by omega) (by omega), piC_o (by omega) (by omega), emM_o (by decide) (by decide)]
        exact qa i hi
    refine Or.inl ⟨fun i => if i = nC then w else W i, _, _, e1, e2, ⟨⟨by omega, n2, n3, n4, by rw [k4]; omega, n6⟩, ⟨tabC_o (fun q hq => piC_o (by omega) (by omega)) t1, t2, tabM_o (fun q q1 q2 => emM_o (by omega) (by omega)) (emM_1 (by decide) (by decide)) t3, t4, by rw [k4]; omega, by rw [k4]; omega, t7, t8, t9, t10⟩, ⟨piC_6, by rw [piC_p (by decide)]; exact c11, by rw [piC_p (by decide)]; exact c12, by rw [piC_p (by decide)]; exact c15, by rw [piC_o (by omega) (by omega)]; exact c5, by rw [piC_o (by omega) (by omega)]; exact c9⟩, ⟨emM_39, by rw [emM_1 (by decide) (by decide)]; exact m52, by rw [emM_1 (by decide) (by decide)]; exact m54, ?_, by rw [emM_1 (by decide) (by decide)]; exact m50, by rw [emM_1 (by decide) (by decide)]; exact m53⟩, fun i hi => ?_, ⟨⟨fun k hk => ?_, fun k hk => ?_, hK.2.2.1, hK.2.2.2.1, fun i b hb => ?_⟩, hbo cur hcu⟩, fun i hi => ?_, fun k hk => ?_, fc.of (fun q a b c => piC_o (by omega) (by omega)), fun q hq => by rw [emM_o (by omega) (by omega)]; exact fr.1 q hq, fun j j1 j39 j47 => by rw [emM_1 j39 (by omega)]; exact fr.2 j j1 j39 j47⟩, k4, fun q hq => emM_o (by omega) (by omega), fun j hj => ?_⟩
    · unfold emM
      rw [up_as (by decide), up_ne (by decide), up_ne (by decide), up_ne (by decide), up_ne (by decide), up_ne (by decide), up_at]
    · unfold wRow
      rw [piC_1, piC_2, piC_3, piC_4, piC_5, emM_29, emM_30, emM_31, emM_32]
      by_cases e : i = nC
      · subst e
        rw [upd_at, upd_at, upd_at, upd_at, upd_at, upd_at, upd_at, upd_at, upd_at]
        refine ⟨rfl, rfl, rfl, hf, fun q => ?_, fun q => ?_⟩
        · have n7 : o ≠ 7 := fun z => q (o7.mpr z)
          rw [if_neg n7, h7 n7]
          exact ⟨rfl, rfl⟩
        · have e7 := o7.mp q
          rw [if_pos e7]
          show ty_pr LC c (some (if i = i then w else W i)) ∧ ty_pr LR c' (some (if i = i then w else W i)) ∧ nI (ty_sz w) = nI (ty_sz (if i = i then w else W i)) ∧ wOk (if i = i then w else W i)
          rw [if_pos rfl]
          exact ⟨(hw' e7).1, (hw' e7).2.1, rfl, (hw' e7).2.2⟩
      · rw [upd_ne e, upd_ne e, upd_ne e, upd_ne e, upd_ne e, upd_ne e, upd_ne e, upd_ne e, upd_ne e]
        have := hR i (by omega)
        unfold wRow at this
        simp only [if_neg e]
        exact this
    · rcases hK.1 k hk with q | q
      · exact Or.inl (hbo k q)
      · exact Or.inr q
    · obtain ⟨q1, q2, q3⟩ := hK.2.1 k hk
      exact ⟨q1, by rw [piC_7, upd_ne q3]; exact q2, q3⟩
    · rw [piC_o (q := 30) (by omega) (by omega)]
      exact hK.2.2.2.2 i b hb
    · have := hE i hi
      unfold wEv at this ⊢
      rw [piC_o (q := 25) (by omega) (by omega), piC_o (q := 26) (by omega) (by omega), piC_o (q := 27) (by omega) (by omega), emM_o (q := 40) (by decide) (by decide), emM_o (q := 41) (by decide) (by decide), emM_o (q := 42) (by decide) (by decide), emM_o (q := 43) (by decide) (by decide)]
      exact this
    · have := hB k hk
      unfold wBd at this ⊢
      rw [piC_o (q := 28) (by omega) (by omega), piC_o (q := 29) (by omega) (by omega), piC_o (q := 30) (by omega) (by omega), emM_o (q := 44) (by decide) (by decide), emM_o (q := 45) (by decide) (by decide), emM_o (q := 46) (by decide) (by decide)]
      exact this
    · by_cases j47 : j = 47
      · subst j47
        unfold emM
        rw [up_as (by decide), up_ne (by decide), up_ne (by decide), up_ne (by decide), up_ne (by decide), up_ne (by decide), up_at, m47]
      · exact emM_1 hj j47
  · have e3 : nC = 300 := by omega
    subst e3
    refine Or.inr ⟨sm_up Mc p 15 1, ?_, ⟨⟨tabC_o (fun q hq => up_ne (by omega)) t1, fun i hi => have hi' : i < nV := hi.elim id (fun q => by rw [q]; exact n4); ⟨_, by rw [up_ne (by omega)]; exact (hE i hi').1, (hE i hi').o0⟩⟩, ⟨t2, hLN⟩, up_at, ⟨300, Nat.le_refl _, by rw [up_as (by decide)]; exact c6⟩, ⟨nB, n2, by rw [up_as (by decide)]; exact c11⟩, fc.of (fun q a b c => up_ne (by omega))⟩, em_full m47 m39, tabM_o (fun q q1 q2 => up_ne (by omega)) (up_as (by decide)) t3, t4, up_at, fun q hq => by rw [up_ne (by omega)]; exact fr.1 q hq, fun j j1 j39 j47 => by rw [up_as (by omega)]; exact fr.2 j j1 j39 j47⟩
    unfold jC_put jC_put_21
    rw [c6, if_pos (show nI 300 = 300 from rfl), eqp_self, bo_1]
    rfl
end
