/-! block, the call -/
section
variable {pV : pVt} {nB nC p d1 d3 d4 n : Nat} {L LM : List Ty} {W : Nat → Ty} {A : Nat → Option Ty} {Mc Mm N : sm_M} {D : sm_D} {k a b c x : Int32} {oa ob oc o : Option Ty}
def rvC (M : sm_M) (p n : Nat) : sm_M := sm_up (sm_up M (p + 7) n 0) p 11 (nI (n + 1))
theorem c_reserve (hB : Mc p 11 = nI n) (hn : n < 40) : jC_reserve p D Mc = some (nI n, D, rvC Mc p n) := by
  have ne : ¬ nI n = (40 : Int32) := fun q => by
    have := nI_inj (by omega) (by decide) (show nI n = nI 40 from q)
    omega
  unfold jC_reserve
  rw [hB, if_neg ne, ck_nI hn (by decide), nI_clamp (by omega)]
  simp only [sm_wr]
  rw [up_ne (show p ≠ p + 7 by omega), hB, up_at, nI_1, nI_pred]
  rfl
theorem rvC_o {q : Nat} (h0 : q ≠ p) (h7 : q ≠ p + 7) : rvC Mc p n q = Mc q := by unfold rvC; rw [up_ne h0, up_ne h7]
theorem rvC_p {j : Nat} (hj : j ≠ 11) : rvC Mc p n p j = Mc p j := by unfold rvC; rw [up_as hj, up_ne (by omega)]
theorem rvC_7 : rvC Mc p n (p + 7) = upd (Mc (p + 7)) n 0 := by unfold rvC; rw [up_ne (by omega), sm_up_same]
theorem q_block (hp : (p = 40 ∧ d1 = 50) ∨ (p = 50 ∧ d1 = 40)) (hR : rl pV p L LM nC nB W A Mc Mm) {a b c : Int32} : lc_two (jA_block p d1 p d3 d4 a b c Mc) (jR_block a b c [] Mm) (Rl pV) := by
  have hg := in_gC hp
  have hp40 : 40 ≤ p := by rcases hp with ⟨q, -⟩ | ⟨q, -⟩ <;> rw [q] <;> decide
  have h' := hR.up0 (v := 0)
  simp only [jR_block, sm_wr]
  generalize sm_up Mm 1 0 0 = N at h' ⊢
  have h := h'.1
  obtain ⟨c1, c2, c3, c4, c5, c6, c7, c8, c9, c10, c11⟩ := h'.2.2.2.1
  have hno : ∀ {jc jr : Option sm_S}, jc = some (-1, [p, d1, p, d3, d4], Mc) → jr = some (-1, [], N) → lc_two jc jr (Rl pV) := fun h1 h2 => ⟨-1, [p, d1, p, d3, d4], Mc, N, h1, h2, Rl.mk hp h'⟩
  unfold jA_block
  have a35 : jA_block_35 p d1 p d3 d4 Mc = some (-1, [p, d1, p, d3, d4], Mc) := rfl
  rcases q_ask (D := [p, d1, p, d3, d4]) h a b c with ⟨oa, ob, oc, pa, pb, pc, hc1, m1, m2, m3⟩ | ⟨hc0, hm0⟩
  · rw [m1, bi_some, dq_self, if_neg (show ¬ (1 : Int32) = 0 by decide), m2, bi_some, dq_self, if_neg (show ¬ (1 : Int32) = 0 by decide), m3, bi_some, dq_self, if_neg (show ¬ (1 : Int32) = 0 by decide), c7]
    by_cases h13 : Mc p 13 = 0
    · rw [if_pos h13, if_pos h13, c5, c6]
      by_cases h40 : nI nB = 40
      · rw [if_pos h40, if_pos h40, dq_self]
        exact hno a35 rfl
      · have hn : nB < 40 := by
          by_cases q : nB = 40
          · subst q; exact absurd rfl h40
          · omega
        have f3 := c11.resolve_right (fun q => by rw [h13] at q; exact absurd q.1 (by decide))
        obtain ⟨-, f4, f5, f6⟩ := f3
        have hT1 : tabC (rvC Mc p nB) L := tabC_o (fun q hq => rvC_o (by omega) (by omega)) h.1
        have e11 : rvC Mc p nB p 11 = nI (nB + 1) := up_at
        have e6 : rvC Mc p nB p 6 = nI nC := by rw [rvC_p (by decide)]; exact c3
        rw [if_neg h40, if_neg h40, hc1, bi_some, dq_self, if_neg (show ¬ (1 : Int32) = 0 by decide), ga_in hg, c_reserve c5 hn, bi_some, dq_self, ga_in hg, k_open hg hp40 (Nat.lt_succ_self nB) (by omega) e11 hT1 pa pb pc, bi_some, dq_self, ga_in hg, j_begin, bi_some, dq_self, e6]
        rw [r_nmb h pa rfl, bi_some, dq_self, r_nmb h pb rfl, bi_some, dq_self, r_nmb h pc rfl, bi_some, dq_self, r_beginB c2, bi_some, dq_self, obM_1 (show (38 : Nat) ≠ 54 by decide), c6, nI_1, r_restart, bi_some, dq_self, rsM_1 (by decide) (by decide) (by decide) (by decide), up_at, nI_pred]
        refine ⟨nI nB, [p, d1, p, d3, d4], _, _, rfl, rfl, Rl.mk (L := L) (LM := LM) (nC := nC) (nB := nB + 1) (W := W) (A := u3 A nB oa ob oc) hp (rl_begin hp ?_ ?_ ?_ ?_)⟩
        · refine h.o (fun q hq => ?_) (fun q x y => ?_) ?_ ?_
          · rw [opC_o (by omega) (by omega) (by omega) (by omega), rvC_o (by omega) (by omega)]
          · rw [up_ne (by omega), obM_o (by omega) (by omega)]
          · rw [up_as (by decide), obM_1 (by decide)]
          · rw [up_as (by decide), obM_1 (by decide)]
        · refine h'.2.1.o (fun q x y => ?_) (fun q x y => ?_) ?_
          · rw [opC_o (by omega) (by omega) (by omega) (by omega), rvC_o (by omega) (by omega)]
          · rw [up_ne (by omega), obM_o (by omega) (by omega)]
          · rw [up_as (by decide), obM_1 (by decide)]
        · rw [up_as (by decide), obM_1 (by decide), opC_o (by omega) (by omega) (by omega) (by omega), rvC_o (by omega) (by omega), opC_o (by omega) (by omega) (by omega) (by omega), rvC_o (by omega) (by omega)]
          exact h'.2.2.1
        · have o : ∀ q, q ≠ 1 → sm_up (obM N nB (nmb N a) (nmb N b) (nmb N c)) 1 38 (nI (nB + 1)) q = obM N nB (nmb N a) (nmb N b) (nmb N c) q := fun q hq => up_ne hq
          have w : ∀ j, j = 1 ∨ j = 2 ∨ j = 3 ∨ j = 4 ∨ j = 5 → opC (rvC Mc p nB) p nB (nI nC) a b c oa ob oc (p + j) = Mc (p + j) := fun j hj => by
            rw [opC_o (by omega) (by omega) (by omega) (by omega), rvC_o (by omega) (by omega)]
          have w7 : opC (rvC Mc p nB) p nB (nI nC) a b c oa ob oc (p + 7) = upd (Mc (p + 7)) nB 0 := by
            rw [opC_o (by omega) (by omega) (by omega) (by omega), rvC_7]
          have w6 : opC (rvC Mc p nB) p nB (nI nC) a b c oa ob oc (p + 6) = upd (Mc (p + 6)) nB (nI nC) := by
            rw [opC_6, rvC_o (by omega) (by omega)]
          have w8 : opC (rvC Mc p nB) p nB (nI nC) a b c oa ob oc (p + 8) = upd (upd (upd (Mc (p + 8)) (3 * nB) a) (3 * nB + 1) b) (3 * nB + 2) c := by
            rw [opC_8, rvC_o (by omega) (by omega)]
          have w9 : opC (rvC Mc p nB) p nB (nI nC) a b c oa ob oc (p + 9) = upd (upd (upd (Mc (p + 9)) (3 * nB) (nI (ty_so oa))) (3 * nB + 1) (nI (ty_so ob))) (3 * nB + 2) (nI (ty_so oc)) := by
            rw [opC_9, rvC_o (by omega) (by omega)]
          have wp : ∀ j, j ≠ 11 → j ≠ 12 → opC (rvC Mc p nB) p nB (nI nC) a b c oa ob oc p j = Mc p j := fun j h1 h2 => by rw [opC_p h2, rvC_p h1]
          refine ⟨c1, by omega, ?_, ?_, ?_, up_at, ?_, ?_, ?_, ?_, Or.inl ⟨?_, ?_, ?_, fun _ => ⟨?_, ?_⟩⟩⟩
          · rw [wp 6 (by decide) (by decide)]; exact c3
          · rw [up_as (by decide), obM_1 (by decide)]; exact c4
          · rw [opC_p (by decide)]; exact e11
          · rw [up_as (by decide), obM_1 (by decide), wp 13 (by decide) (by decide)]; exact c7
          · rw [w 1 (by decide), w 2 (by decide), w 3 (by decide), w 4 (by decide), w 5 (by decide), o 29 (by decide), o 30 (by decide), o 31 (by decide), o 32 (by decide), obM_o (by decide) (by decide), obM_o (by decide) (by decide), obM_o (by decide) (by decide), obM_o (by decide) (by decide)]
            exact c8
          · intro b' hb'
            rw [w6, w7, o 33 (by decide), o 34 (by decide), obM_33, obM_34, c4]
            by_cases e : b' = nB
            · subst e
              rw [upd_at, upd_at, upd_at, upd_at]
              exact ⟨nC, 0, by omega, rfl, rfl, rfl, rfl⟩
            · rw [upd_ne e, upd_ne e, upd_ne e, upd_ne e]
              exact c9 b' (by omega)
          · intro i hi
            rw [w9, o 35 (by decide), obM_35, upd_3, upd_3]
            unfold u3
            by_cases h0 : i = 3 * nB
            · rw [if_pos h0, if_pos h0, if_pos h0]; exact ⟨nmb_pr h pa, rfl⟩
            · by_cases h1 : i = 3 * nB + 1
              · rw [if_neg h0, if_pos h1, if_neg h0, if_pos h1, if_neg h0, if_pos h1]; exact ⟨nmb_pr h pb, rfl⟩
              · by_cases h2 : i = 3 * nB + 2
                · rw [if_neg h0, if_neg h1, if_pos h2, if_neg h0, if_neg h1, if_pos h2, if_neg h0, if_neg h1, if_pos h2]; exact ⟨nmb_pr h pc, rfl⟩
                · rw [if_neg h0, if_neg h1, if_neg h2, if_neg h0, if_neg h1, if_neg h2, if_neg h0, if_neg h1, if_neg h2]; exact c10 i (by omega)
          · rw [wp 13 (by decide) (by decide)]; exact h13
          · rw [w 4 (by decide), o 29 (by decide), obM_o (by decide) (by decide)]
            exact f4
          · intro i hi
            rw [w8, upd_3]
            unfold u3
            by_cases h0 : i = 3 * nB
            · rw [if_pos h0, if_pos h0]; exact pa
            · by_cases h1 : i = 3 * nB + 1
              · rw [if_neg h0, if_pos h1, if_neg h0, if_pos h1]; exact pb
              · by_cases h2 : i = 3 * nB + 2
                · rw [if_neg h0, if_neg h1, if_pos h2, if_neg h0, if_neg h1, if_pos h2]; exact pc
                · rw [if_neg h0, if_neg h1, if_neg h2, if_neg h0, if_neg h1, if_neg h2]; exact f5 i (by omega)
          · rw [opC_12]; rfl
          · rw [w6, w7, show nB + 1 - 1 = nB from rfl, upd_at, upd_at, Int32.add_zero]
    · rw [if_neg h13, if_neg h13, dq_self]
      exact hno a35 rfl
  · refine hno ?_ ?_
    · by_cases h13 : Mc p 13 = 0
      · rw [if_pos h13]
        by_cases h40 : Mc p 11 = 40
        · rw [if_pos h40, dq_self]; exact a35
        · rw [if_neg h40, hc0, bi_some, dq_self, if_pos rfl, dq_self]; exact a35
      · rw [if_neg h13, dq_self]; exact a35
    · rcases hm0 with z | ⟨z, z2 | ⟨z2, z3⟩⟩
      · rw [z, bi_some, dq_self, if_pos rfl]; rfl
      · rw [z, bi_some, dq_self, if_neg (by decide), z2, bi_some, dq_self, if_pos rfl]; rfl
      · rw [z, bi_some, dq_self, if_neg (by decide), z2, bi_some, dq_self, if_neg (by decide), z3, bi_some, dq_self, if_pos rfl]; rfl
end
