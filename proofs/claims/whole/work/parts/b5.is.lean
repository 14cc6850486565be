/-! is; and programs -/
section
variable {pV : pVt} {nB nC p d1 d3 d4 n : Nat} {L LM : List Ty} {W : Nat → Ty} {A : Nat → Option Ty} {Mc Mm N Mc' : sm_M}
theorem rl_typed (hp : (p = 40 ∧ d1 = 50) ∨ (p = 50 ∧ d1 = 40)) (h : rl pV p L LM nC nB W A Mc Mm) (hc : tabC Mc' L) (hco : ∀ q, 8 < q → q ≠ 16 → q ≠ 17 → Mc' q = Mc q) (hm : tabM N LM) (hG : ∀ q, (7 ≤ q ∧ q ≤ 17) ∨ 23 < q → N q = Mm q) (h1 : ∀ j, j ≠ 1 → j ≠ 20 → j ≠ 21 → j ≠ 22 → N 1 j = Mm 1 j) : rl pV p L LM nC nB W A Mc' N := by
  obtain ⟨⟨a1, a2, a3, a4, a5, a6, a7, a8, a9, a10⟩, r2, r3, r4, r5⟩ := h
  refine ⟨⟨hc, a2, a3, a4, hm, a6, a7, by rw [h1 7 (by decide) (by decide) (by decide) (by decide)]; exact a8, by rw [hG 7 (by decide)]; exact a9, fun i hi => ?_⟩, r2.o (fun q a b => hco q (by omega) (by omega) (by omega)) (fun q a b => hG q (by omega)) (h1 13 (by decide) (by decide) (by decide) (by decide)), ?_, ?_, r5.o (fun q a b => hco q (by omega) (by omega) (by omega)) (fun q hq => hG q (by omega)) (fun j a b => h1 j (by omega) (by omega) (by omega) (by omega))⟩
  · have hg : L[i]? = some L[i] := List.getElem?_eq_getElem hi
    obtain ⟨m, o1, o2, o3, et⟩ := tyok_mk (a4 _ (List.mem_of_getElem? hg)).1
    rw [et] at hg
    obtain ⟨e2, e3, e4, e5⟩ := tab_same (K := []) a1 (by rw [List.append_nil]; exact hc) hg
    rw [e2, e3, e4, e5, hG 8 (by decide), hG 9 (by decide), hG 10 (by decide), hG 11 (by decide)]
    exact a10 i hi
  · rw [h1 29 (by decide) (by decide) (by decide) (by decide), hco 18 (by decide) (by decide) (by decide), hco 25 (by decide) (by decide) (by decide)]
    exact r3
  · have hp40 : 40 ≤ p := by rcases hp with ⟨q, -⟩ | ⟨q, -⟩ <;> rw [q] <;> decide
    exact r4.o (fun q a b => hco q (by omega) (by omega) (by omega)) (fun q a b => hG q (by omega)) (h1 37 (by decide) (by decide) (by decide) (by decide)) (h1 38 (by decide) (by decide) (by decide) (by decide)) (h1 39 (by decide) (by decide) (by decide) (by decide))
/-- both sides type an expression -/
theorem t_both (hp : (p = 40 ∧ d1 = 50) ∨ (p = 50 ∧ d1 = 40)) (h : rl pV p L LM nC nB W A Mc Mm) {D : sm_D} {e : Nat} (hm : Mm 1 13 = nI n) (hn : n ≤ 40) (he : e < n) : ∃ (xc xr : Int32) (M1 M2 : sm_M) (K : List Ty), jA_typeOf (nI e) D Mc = some (xc, D, M1) ∧ jR_typeOf (nI e) [] Mm = some (xr, [], M2) ∧ rl pV p L LM nC nB W A M1 (sm_up M2 1 1 (Mm 1 1)) ∧ (∀ q, 8 < q → q ≠ 16 → q ≠ 17 → M1 q = Mc q) ∧ M2 7 = Mm 7 ∧ tabM M2 (LM ++ K) ∧ zG M2 Mm ∧ ∀ (i r : Nat) (t : Ty), L[i]? = some t → LM[r]? = some t → (xc = nI i ↔ xr = nI r) ∧ (xc = nI i ↔ pT (Mc 10) (Mc 11) (Mc 12) (Mc 13) (Mc 14) L 8 [] e t) := by
  obtain ⟨n', b1, b2, b3, b4, b5⟩ := h.2.1
  have en : n' = n := nI_inj (by omega) (by omega) (b3.symm.trans hm)
  subst en
  obtain ⟨xc, M1, c1, c2, c3, c4⟩ := c_typeOf (D := D) h.1 b1 b5 he
  obtain ⟨xr, K, M2, f1, f2, f3, f4⟩ := r_typeOf h.1 b1 b4 b5 he
  have hl := h.1.2.2.2.2.1.2.1
  refine ⟨xc, xr, M1, M2, K, c1, f1, rl_typed hp h c2 c3 (by rw [hl]; exact tabM_cut f2) (fun q hq => ?_) (fun j a b c d => ?_), c3, f3.1 7 (by decide) (by decide), f2, f3, fun i r t hi hr => ⟨?_, c4 i t hi⟩⟩
  · rw [up_ne (by omega)]
    rcases hq with ⟨q1, q2⟩ | q1
    · exact f3.1 q (by omega) q2
    · exact f3.2.1 q q1
  · rw [up_as a]; exact f3.2.2 j a b c d
  · have f2l := f2.1
    exact (c4 i t hi).trans (f4.is f2.2.2.1 (by omega) (by rw [List.getElem?_append_left (List.getElem?_eq_some_iff.mp hr).1]; exact hr)).symm
theorem q_is (hp : (p = 40 ∧ d1 = 50) ∨ (p = 50 ∧ d1 = 40)) (h : rl pV p L LM nC nB W A Mc Mm) {a b : Int32} : lc_two (jA_is a b [p, d1, p, d3, d4] Mc) (jR_is a b [] Mm) (Rl pV) := by
  have h' := h.up0 (v := 0)
  simp only [jR_is, sm_wr]
  generalize sm_up Mm 1 0 0 = N at h' ⊢
  obtain ⟨n, b1, b2, b3, b4, b5⟩ := h'.2.1
  rcases e_hasA b1 b2 b3 b5 a with ⟨g, ⟨e, he, rfl, -⟩, e1, e2⟩ | ⟨e1, e2⟩
  · unfold jA_is
    rw [e1, bi_some, dq_self, if_neg (show ¬ (1 : Int32) = 0 by decide), e2, bi_some, dq_self, if_neg (show ¬ (1 : Int32) = 0 by decide)]
    rcases r_made (D := [p, d1, p, d3, d4]) h'.1 (x := b) with ⟨i, t, hi, rfl, e3, e4⟩ | ⟨e3, e4⟩
    · rw [e3, bi_some, dq_self, if_neg (show ¬ (1 : Int32) = 0 by decide), e4, bi_some, dq_self, if_neg (show ¬ (1 : Int32) = 0 by decide)]
      obtain ⟨r, hr, h7, hr3, hi3⟩ := r_numI h'.1 hi
      obtain ⟨xc, xr, M1, M2, K, c1, c2, c3, -, c7, -, -, c5⟩ := t_both hp h' (D := [p, d1, p, d3, d4]) b3 b1 he
      have hq := (c5 i r t hi hr).1
      rw [c1, bi_some, dq_self, c2, bi_some, dq_self, ck_nI hi3 (by decide), nI_clamp (by omega), c7, h7]
      by_cases g1 : xc = nI i
      · refine ⟨1, [p, d1, p, d3, d4], M1, sm_up M2 1 1 (N 1 1), ?_, ?_, Rl.mk hp c3⟩
        · rw [if_pos g1]; rfl
        · rw [if_pos (hq.mp g1)]; rfl
      · refine ⟨0, [p, d1, p, d3, d4], M1, sm_up M2 1 1 (N 1 1), ?_, ?_, Rl.mk hp c3⟩
        · rw [if_neg g1]; rfl
        · rw [if_neg (fun q => g1 (hq.mpr q))]; rfl
    · rw [e3, bi_some, dq_self, if_pos rfl, e4, bi_some, dq_self, if_pos rfl]
      exact ⟨0, [p, d1, p, d3, d4], Mc, N, rfl, rfl, Rl.mk hp h'⟩
  · unfold jA_is
    rw [e1, bi_some, dq_self, if_pos rfl, e2, bi_some, dq_self, if_pos rfl]
    exact ⟨0, [p, d1, p, d3, d4], Mc, N, rfl, rfl, Rl.mk hp h'⟩
/-- both sides ask whether an expression is a program -/
theorem t_prog (hp : (p = 40 ∧ d1 = 50) ∨ (p = 50 ∧ d1 = 40)) (h : rl pV p L LM nC nB W A Mc Mm) {D : sm_D} {e : Nat} (hm : Mm 1 13 = nI n) (hn : n ≤ 40) (he : e < n) : ∃ (xc : Int32) (M1 M2 : sm_M), jA_typeOf (nI e) D Mc = some (xc, D, M1) ∧ rl pV p L LM nC nB W A M1 M2 ∧ (∀ q, 8 < q → q ≠ 16 → q ≠ 17 → M1 q = Mc q) ∧ M2 1 0 = Mm 1 0 ∧ (∀ q, (7 ≤ q ∧ q ≤ 17) ∨ 23 < q → M2 q = Mm q) ∧ (∀ j, j ≠ 20 → j ≠ 21 → j ≠ 22 → M2 1 j = Mm 1 j) ∧ ((xc = 0 ∧ pT (Mc 10) (Mc 11) (Mc 12) (Mc 13) (Mc 14) L 8 [] e tyN ∧ jR_isProgram (nI e) [] Mm = some (1, [], M2)) ∨ (xc ≠ 0 ∧ jR_isProgram (nI e) [] Mm = some (0, [], M2))) := by
  obtain ⟨xc, xr, M1, M2, K, c1, c2, c3, c4, c7, -, c8, c5⟩ := t_both hp h (D := D) hm hn he
  have hq := c5 0 0 tyN h.1.2.2.1 h.1.2.2.2.2.2.2.1
  rw [nI_0] at hq
  refine ⟨xc, M1, sm_up M2 1 1 (Mm 1 1), c1, c3, c4, ?_, fun q hq => ?_, fun j a b c => ?_, ?_⟩
  · rw [up_as (by decide)]; exact c8.2.2 0 (by decide) (by decide) (by decide) (by decide)
  · rw [up_ne (by omega)]
    rcases hq with ⟨q1, q2⟩ | q1
    · exact c8.1 q (by omega) q2
    · exact c8.2.1 q q1
  · by_cases j1 : j = 1
    · subst j1; exact up_at
    · rw [up_as j1]; exact c8.2.2 j j1 a b c
  · unfold jR_isProgram
    rw [c2, bi_some, dq_self]
    by_cases g : xc = 0
    · refine Or.inl ⟨g, hq.2.mp g, ?_⟩
      rw [if_pos (hq.1.mp g)]; rfl
    · refine Or.inr ⟨g, ?_⟩
      rw [if_neg (fun z => g (hq.1.mpr z))]; rfl
end
