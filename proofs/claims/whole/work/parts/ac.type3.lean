/-! type, by its kinds -/
section
variable {pV : pVt} {nB nC p d1 d3 d4 n : Nat} {L LM : List Ty} {W : Nat → Ty} {A : Nat → Option Ty} {Mc Mm N : sm_M} {D : sm_D} {k a b c x : Int32} {oa ob oc o : Option Ty}
theorem pr_m1 : ty_pr L (-1) none := Or.inl ⟨rfl, rfl⟩
/-- what may be asked: none, or a kept type -/
theorem r_ask (h : rlT L LM Mc N) (x : Int32) : (x = -1 ∧ ty_pr L x none) ∨ (x ≠ -1 ∧ (∃ t, ty_pr L x (some t)) ∧ jT_has x D Mc = some (1, D, Mc) ∧ ∀ {E : sm_D}, jR_isMade x E N = some (1, E, N)) ∨ (x ≠ -1 ∧ jT_has x D Mc = some (0, D, Mc) ∧ ∀ {E : sm_D}, jR_isMade x E N = some (0, E, N)) := by
  by_cases hx : x = -1
  · exact Or.inl ⟨hx, Or.inl ⟨rfl, hx⟩⟩
  · rcases r_made (D := D) h (x := x) with ⟨i, t, hi, e, m1, m2⟩ | ⟨m1, m2⟩
    · exact Or.inr (Or.inl ⟨hx, ⟨t, Or.inr ⟨i, t, rfl, hi, e⟩⟩, m1, m2⟩)
    · exact Or.inr (Or.inr ⟨hx, m1, m2⟩)
theorem q_ask (h : rlT L LM Mc N) (a b c : Int32) : (∃ oa ob oc, ty_pr L a oa ∧ ty_pr L b ob ∧ ty_pr L c oc ∧ jT_canAsk a b c D Mc = some (1, D, Mc) ∧ (∀ {E : sm_D}, jR_isAsked a E N = some (1, E, N)) ∧ (∀ {E : sm_D}, jR_isAsked b E N = some (1, E, N)) ∧ ∀ {E : sm_D}, jR_isAsked c E N = some (1, E, N)) ∨ (jT_canAsk a b c D Mc = some (0, D, Mc) ∧ ((∀ {E : sm_D}, jR_isAsked a E N = some (0, E, N)) ∨ ((∀ {E : sm_D}, jR_isAsked a E N = some (1, E, N)) ∧ ((∀ {E : sm_D}, jR_isAsked b E N = some (0, E, N)) ∨ ((∀ {E : sm_D}, jR_isAsked b E N = some (1, E, N)) ∧ ∀ {E : sm_D}, jR_isAsked c E N = some (0, E, N)))))) := by
  have one : ∀ x : Int32, (∃ o, ty_pr L x o ∧ (∀ {E : sm_D}, jR_isAsked x E N = some (1, E, N)) ∧ (x = -1 ∨ (x ≠ -1 ∧ jT_has x D Mc = some (1, D, Mc)))) ∨ ((∀ {E : sm_D}, jR_isAsked x E N = some (0, E, N)) ∧ x ≠ -1 ∧ jT_has x D Mc = some (0, D, Mc)) := by
    intro x
    rcases r_ask (D := D) h x with ⟨h1, h2⟩ | ⟨h1, ⟨t, h2⟩, h3, h4⟩ | ⟨h1, h3, h4⟩
    · refine Or.inl ⟨none, h2, fun {E} => ?_, Or.inl h1⟩
      unfold jR_isAsked
      rw [if_pos h1]; exact bo_1
    · refine Or.inl ⟨some t, h2, fun {E} => ?_, Or.inr ⟨h1, h3⟩⟩
      unfold jR_isAsked
      rw [if_neg h1, h4, bi_some, dq_self, if_neg (by decide)]; exact bo_1
    · refine Or.inr ⟨fun {E} => ?_, h1, h3⟩
      unfold jR_isAsked
      rw [if_neg h1, h4, bi_some, dq_self, if_pos rfl]; exact bo_0
  have s26 : ∀ x : Int32, (x = -1 ∨ (x ≠ -1 ∧ jT_has x D Mc = some (1, D, Mc))) → jT_canAsk_26 x D Mc = some (1, D, Mc) := by
    intro x hx
    unfold jT_canAsk_26
    rcases hx with e | ⟨e, e2⟩
    · rw [if_pos e]; exact bo_1
    · rw [if_neg e, e2, bi_some, dq_self, if_neg (by decide)]; exact bo_1
  have n26 : ∀ x : Int32, x ≠ -1 → jT_has x D Mc = some (0, D, Mc) → jT_canAsk_26 x D Mc = some (0, D, Mc) := by
    intro x e e2
    unfold jT_canAsk_26
    rw [if_neg e, e2, bi_some, dq_self, if_pos rfl]; exact bo_0
  have s13 : ∀ x y : Int32, (x = -1 ∨ (x ≠ -1 ∧ jT_has x D Mc = some (1, D, Mc))) → jT_canAsk_13 x y D Mc = jT_canAsk_26 y D Mc := by
    intro x y hx
    unfold jT_canAsk_13
    rcases hx with e | ⟨e, e2⟩
    · rw [if_pos e]
    · rw [if_neg e, e2, bi_some, dq_self, if_neg (by decide)]
  have n13 : ∀ x y : Int32, x ≠ -1 → jT_has x D Mc = some (0, D, Mc) → jT_canAsk_13 x y D Mc = some (0, D, Mc) := by
    intro x y e e2
    unfold jT_canAsk_13
    rw [if_neg e, e2, bi_some, dq_self, if_pos rfl]; exact bo_0
  have s0 : ∀ x y z : Int32, (x = -1 ∨ (x ≠ -1 ∧ jT_has x D Mc = some (1, D, Mc))) → jT_canAsk x y z D Mc = jT_canAsk_13 y z D Mc := by
    intro x y z hx
    unfold jT_canAsk
    rcases hx with e | ⟨e, e2⟩
    · rw [if_pos e]
    · rw [if_neg e, e2, bi_some, dq_self, if_neg (by decide)]
  rcases one a with ⟨oa, a1, a2, a3⟩ | ⟨a2, a3, a4⟩
  · rcases one b with ⟨ob, b1, b2, b3⟩ | ⟨b2, b3, b4⟩
    · rcases one c with ⟨oc, c1, c2, c3⟩ | ⟨c2, c3, c4⟩
      · exact Or.inl ⟨oa, ob, oc, a1, b1, c1, by rw [s0 _ _ _ a3, s13 _ _ b3]; exact s26 _ c3, a2, b2, c2⟩
      · exact Or.inr ⟨by rw [s0 _ _ _ a3, s13 _ _ b3]; exact n26 _ c3 c4, Or.inr ⟨a2, Or.inr ⟨b2, c2⟩⟩⟩
    · exact Or.inr ⟨by rw [s0 _ _ _ a3]; exact n13 _ _ b3 b4, Or.inr ⟨a2, Or.inl b2⟩⟩
  · refine Or.inr ⟨?_, Or.inl a2⟩
    unfold jT_canAsk
    rw [if_neg a3, a4, bi_some, dq_self, if_pos rfl]; exact bo_0
theorem q_type (hp : (p = 40 ∧ d1 = 50) ∨ (p = 50 ∧ d1 = 40)) (hR : rl pV p L LM nC nB W A Mc Mm) {k a b c : Int32} : lc_two (jA_type k a b c [p, d1, p, d3, d4] Mc) (jR_type k a b c [] Mm) (Rl pV) := by
  have h' := hR.up0 (v := 0)
  simp only [jR_type, sm_wr]
  generalize sm_up Mm 1 0 0 = N at h' ⊢
  have h := h'.1
  have hno : ∀ {jc jr : Option sm_S}, jc = some (-1, [p, d1, p, d3, d4], Mc) → jr = some (-1, [], N) → lc_two jc jr (Rl pV) := fun h1 h2 => ⟨-1, [p, d1, p, d3, d4], Mc, N, h1, h2, Rl.mk hp h'⟩
  have r0 : ∀ {k a b c : Int32}, jR_type_125 k a b c 0 [] N = some (-1, [], N) := fun {k a b c} => r_125n
  have r1 : ∀ {k a b c : Int32}, jR_type_125 k a b c 1 [] N = jR_type_137 k a b c 1 [] N := fun {k a b c} => by
    unfold jR_type_125
    rw [if_neg (by decide)]
  by_cases hlo : k < 1
  · have hk : k ≠ 1 ∧ k ≠ 2 ∧ k ≠ 3 ∧ k ≠ 4 := ⟨fun q => by subst q; exact absurd hlo (by decide), fun q => by subst q; exact absurd hlo (by decide), fun q => by subst q; exact absurd hlo (by decide), fun q => by subst q; exact absurd hlo (by decide)⟩
    refine hno ?_ (by rw [if_pos hlo]; rfl)
    unfold jA_type; rw [if_neg hk.1, if_neg hk.2.1, if_neg hk.2.2.1, if_neg hk.2.2.2]
  · by_cases hhi : (4 : Int32) < k
    · have hk : k ≠ 1 ∧ k ≠ 2 ∧ k ≠ 3 ∧ k ≠ 4 := ⟨fun q => by subst q; exact absurd hhi (by decide), fun q => by subst q; exact absurd hhi (by decide), fun q => by subst q; exact absurd hhi (by decide), fun q => by subst q; exact absurd hhi (by decide)⟩
      refine hno ?_ (by rw [if_neg hlo, if_pos hhi]; rfl)
      unfold jA_type; rw [if_neg hk.1, if_neg hk.2.1, if_neg hk.2.2.1, if_neg hk.2.2.2]
    · rw [if_neg hlo, if_neg hhi]
      have two : ∀ n : Nat, n = 1 ∨ n = 2 → k = nI n → lc_two (jA_type_32 k a b [p, d1, p, d3, d4] Mc) (jR_type_40 k a b (-1) [] N) (Rl pV) := by
        intro n hn hk
        have k3 : k ≠ 3 := by rcases hn with rfl | rfl <;> subst hk <;> decide
        have k4 : k ≠ 4 := by rcases hn with rfl | rfl <;> subst hk <;> decide
        unfold jA_type_32 jR_type_40
        rw [if_neg k4]
        rcases r_made (D := [p, d1, p, d3, d4]) h (x := a) with ⟨i, t, hi, ea, m1, m2⟩ | ⟨m1, m2⟩
        · rw [m1, bi_some, dq_self, if_neg (show ¬ (1 : Int32) = 0 by decide), m2, bi_some, dq_self, if_neg (show ¬ (1 : Int32) = 0 by decide), if_neg k3]
          rcases r_made (D := [p, d1, p, d3, d4]) h (x := b) with ⟨j, u, hj, eb, m3, m4⟩ | ⟨m3, m4⟩
          · rw [m3, bi_some, dq_self, if_neg (show ¬ (1 : Int32) = 0 by decide), m4, bi_some, dq_self, if_neg (show ¬ (1 : Int32) = 0 by decide), hk]
            have hok : tyok (ty_mk n (some t) (some u) none) := by
              rcases hn with rfl | rfl
              · exact Or.inr (Or.inl ⟨t, u, rfl⟩)
              · exact Or.inr (Or.inr (Or.inl ⟨t, u, rfl⟩))
            obtain ⟨r, M1, M2, e1, e2, e3⟩ := q_tcore (d3 := d3) (d4 := d4) hp h' (by omega) (by omega) (Or.inr ⟨i, t, rfl, hi, ea⟩) (Or.inr ⟨j, u, rfl, hj, eb⟩) pr_m1 hok
            refine ⟨r, _, M1, M2, ?_, ?_, e3⟩
            · rw [e1, bi_some, dq_self]; rfl
            · exact r1.trans e2
          · rw [m3, bi_some, dq_self, if_pos rfl, m4, bi_some, dq_self, if_pos rfl]
            exact hno rfl r0
        · rw [m1, bi_some, dq_self, if_pos rfl, m2, bi_some, dq_self, if_pos rfl]
          exact hno rfl r0
      obtain ⟨j, hj, rfl⟩ : ∃ j : Nat, (1 ≤ j ∧ j ≤ 4) ∧ k = nI j := by
        have h5 : ¬ k < 0 := fun q => hlo (Int32.lt_trans q (by decide))
        obtain ⟨j, hj, rfl⟩ := nI_of2 (M := 4) (n := 4) (by decide) h5 (Int32.not_lt.mp hhi)
        refine ⟨j, ⟨?_, hj⟩, rfl⟩
        by_cases hj0 : j = 0
        · subst hj0; exact absurd (by decide) hlo
        · omega
      unfold jA_type jR_type_27
      match j, hj with
      | 1, _ =>
        rw [if_pos (show nI 1 = 1 from rfl), if_neg (show ¬ nI 1 = 3 by decide), if_neg (show ¬ nI 1 = 4 by decide)]
        exact two 1 (Or.inl rfl) rfl
      | 2, _ =>
        rw [if_neg (show ¬ nI 2 = 1 by decide), if_pos (show nI 2 = 2 from rfl), if_neg (show ¬ nI 2 = 3 by decide), if_neg (show ¬ nI 2 = 4 by decide)]
        exact two 2 (Or.inr rfl) rfl
      | 3, _ =>
        rw [if_neg (show ¬ nI 3 = 1 by decide), if_neg (show ¬ nI 3 = 2 by decide), if_pos (show nI 3 = 3 from rfl), if_pos (show nI 3 = 3 from rfl), if_neg (show ¬ nI 3 = 4 by decide)]
        unfold jR_type_40
        rw [if_neg (show ¬ nI 3 = 4 by decide)]
        rcases r_made (D := [p, d1, p, d3, d4]) h (x := a) with ⟨i, t, hi, ea, m1, m2⟩ | ⟨m1, m2⟩
        · rw [m1, bi_some, dq_self, if_neg (show ¬ (1 : Int32) = 0 by decide), m2, bi_some, dq_self, if_neg (show ¬ (1 : Int32) = 0 by decide), if_pos (show nI 3 = 3 from rfl)]
          obtain ⟨r, M1, M2, e1, e2, e3⟩ := q_tcore (d3 := d3) (d4 := d4) (kk := 3) hp h' (by decide) (by decide) (Or.inr ⟨i, t, rfl, hi, ea⟩) pr_m1 pr_m1 (Or.inr (Or.inr (Or.inr (Or.inl ⟨t, rfl⟩))))
          refine ⟨r, _, M1, M2, ?_, r1.trans e2, e3⟩
          rw [e1, bi_some, dq_self]; rfl
        · rw [m1, bi_some, dq_self, if_pos rfl, m2, bi_some, dq_self, if_pos rfl]
          exact hno rfl r0
      | 4, _ =>
        rw [if_neg (show ¬ nI 4 = 1 by decide), if_neg (show ¬ nI 4 = 2 by decide), if_neg (show ¬ nI 4 = 3 by decide), if_pos (show nI 4 = 4 from rfl), if_neg (show ¬ nI 4 = 3 by decide), if_pos (show nI 4 = 4 from rfl)]
        unfold jR_type_40
        rw [if_pos (show nI 4 = 4 from rfl)]
        have y75 : ∀ {q : Option sm_S}, (c = -1 ∨ (c ≠ -1 ∧ jR_isMade c [] N = some (1, [], N))) → jR_type_75 (nI 4) a b c [] N = jR_type_137 (nI 4) a b c 1 [] N := by
          intro q hc
          unfold jR_type_75
          rcases hc with e | ⟨e, e2⟩
          · rw [if_pos e]; exact r1
          · rw [if_neg e, e2, bi_some, dq_self, if_neg (by decide)]; exact r1
        have e40 : (a = -1 ∨ (a ≠ -1 ∧ jR_isMade a [] N = some (1, [], N)) → (if a = (-1 : Int32) then (jR_type_60 (nI 4) a b c [] N) else (sm_bi (jR_isMade a [] N) (fun x3 E3 M3 => sm_dq E3 [] (if x3 = (0 : Int32) then (jR_type_94 (nI 4) a b c [] M3) else (jR_type_60 (nI 4) a b c [] M3))))) = jR_type_60 (nI 4) a b c [] N) := by
          intro hq
          rcases hq with e | ⟨e, e2⟩
          · rw [if_pos e]
          · rw [if_neg e, e2, bi_some, dq_self, if_neg (by decide)]
        have e60 : (b = -1 ∨ (b ≠ -1 ∧ jR_isMade b [] N = some (1, [], N)) → jR_type_60 (nI 4) a b c [] N = jR_type_75 (nI 4) a b c [] N) := by
          intro hq
          unfold jR_type_60
          rcases hq with e | ⟨e, e2⟩
          · rw [if_pos e]
          · rw [if_neg e, e2, bi_some, dq_self, if_neg (by decide)]
        rcases q_ask (D := [p, d1, p, d3, d4]) h a b c with ⟨oa, ob, oc, pa, pb, pc, hc1, -, -, -⟩ | ⟨hc0, hm0⟩
        · rw [hc1, bi_some, dq_self, if_neg (show ¬ (1 : Int32) = 0 by decide)]
          obtain ⟨r, M1, M2, e1, e2, e3⟩ := q_tcore (d3 := d3) (d4 := d4) (kk := 4) hp h' (by decide) (by decide) pa pb pc (Or.inr (Or.inr (Or.inr (Or.inr ⟨oa, ob, oc, rfl⟩))))
          have mk : ∀ {x : Int32} {o : Option Ty}, ty_pr L x o → (x = -1 ∨ (x ≠ -1 ∧ jR_isMade x [] N = some (1, [], N))) := by
            intro x o hx
            rcases r_ask (D := [p, d1, p, d3, d4]) h x with ⟨q, -⟩ | ⟨q, -, -, q2⟩ | ⟨q, q2, -⟩
            · exact Or.inl q
            · exact Or.inr ⟨q, q2⟩
            · rcases hx with ⟨-, q3⟩ | ⟨i, t, -, hi, rfl⟩
              · exact absurd q3 q
              · rw [j_has_in h.1 hi] at q2
                exact absurd q2 (by intro z; exact absurd (congrArg (fun w => Option.map (fun u => u.1) w) z) (by simp))
          refine ⟨r, _, M1, M2, ?_, ?_, e3⟩
          · rw [e1, bi_some, dq_self]; rfl
          · rw [e40 (mk pa), e60 (mk pb), y75 (q := none) (mk pc)]
            exact e2
        · rw [hc0, bi_some, dq_self, if_pos rfl]
          refine hno rfl ?_
          have ne01 : ∀ {M : sm_M}, (some ((1 : Int32), ([] : sm_D), M) : Option sm_S) = some (0, [], M) → False := by
            intro M z
            exact absurd (congrArg (fun w => Option.map (fun u => u.1) w) z) (by simp)
          have ia : ∀ x : Int32, (jR_isAsked x [] N = some (0, [], N) → x ≠ -1 ∧ jR_isMade x [] N = some (0, [], N)) ∧ (jR_isAsked x [] N = some (1, [], N) → x = -1 ∨ (x ≠ -1 ∧ jR_isMade x [] N = some (1, [], N))) := by
            intro x
            unfold jR_isAsked
            rcases r_ask (D := [p, d1, p, d3, d4]) h x with ⟨q, -⟩ | ⟨q, -, -, q2⟩ | ⟨q, -, q2⟩
            · refine ⟨fun z => ?_, fun _ => Or.inl q⟩
              rw [if_pos q, show jR_isAsked_13 [] N = some (1, [], N) from bo_1] at z
              exact (ne01 z).elim
            · refine ⟨fun z => ?_, fun _ => Or.inr ⟨q, q2⟩⟩
              rw [if_neg q, q2, bi_some, dq_self, if_neg (by decide), show jR_isAsked_13 [] N = some (1, [], N) from bo_1] at z
              exact (ne01 z).elim
            · refine ⟨fun _ => ⟨q, q2⟩, fun z => ?_⟩
              rw [if_neg q, q2, bi_some, dq_self, if_pos rfl, show jR_isAsked_18 0 [] N = some (0, [], N) from bo_0] at z
              exact (ne01 z.symm).elim
          rcases hm0 with z | ⟨z, z2 | ⟨z2, z3⟩⟩
          · obtain ⟨w1, w2⟩ := (ia a).1 z
            rw [if_neg w1, w2, bi_some, dq_self, if_pos rfl]; exact r0
          · rw [e40 ((ia a).2 z)]
            obtain ⟨w1, w2⟩ := (ia b).1 z2
            unfold jR_type_60
            rw [if_neg w1, w2, bi_some, dq_self, if_pos rfl]; exact r0
          · rw [e40 ((ia a).2 z), e60 ((ia b).2 z2)]
            obtain ⟨w1, w2⟩ := (ia c).1 z3
            unfold jR_type_75
            rw [if_neg w1, w2, bi_some, dq_self, if_pos rfl]; exact r0
end
