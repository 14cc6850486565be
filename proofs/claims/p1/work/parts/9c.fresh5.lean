/-! the first call on fresh objects: type -/
section
variable {Mc Mm N : sm_M} {D : sm_D}
def oN (x : Int32) : Option Ty := if x = -1 then none else some tyN
theorem pr_oN {x : Int32} (hx : ask1 x) : ty_pr [tyN] x (oN x) := pr_ask hx
theorem sum_ask {a b c : Int32} (ha : ask1 a) (hb : ask1 b) (hc : ask1 c) : ¬ (30 : Int32) < (((1 : Int32) + nI (ty_so (oN a))) + nI (ty_so (oN b))) + nI (ty_so (oN c)) := by
  rcases ha with rfl | rfl <;> rcases hb with rfl | rfl <;> rcases hc with rfl | rfl <;> decide
theorem no_N {n : Nat} {o1 o2 o3 : Option Ty} (hn : 0 < n) : ty_mk n o1 o2 o3 ∉ [tyN] := by
  intro h
  have := (ty_mk_inj (List.mem_singleton.mp h)).1
  omega
theorem c_keep {n : Nat} {a b c : Int32} (h0 : 0 < n) (hn : n < 5) (hT : tabC Mc [tyN]) (ha : ask1 a) (hb : ask1 b) (hc : ask1 c) : ∃ M', jT_keep (nI n) a b c D Mc = some (1, D, M') := by
  have hf : ∃ M', jT_find (nI n) a b c D Mc = some (nI 1, D, M') := by
    rcases j_find (D := D) hT hn (pr_oN ha) (pr_oN hb) (pr_oN hc) with ⟨r, hr, -⟩ | ⟨-, -, M', h, -⟩ | ⟨-, h, -⟩
    · exact absurd (List.mem_of_getElem? hr) (no_N h0)
    · exact ⟨M', h⟩
    · simp at h
  obtain ⟨M', hf⟩ := hf
  refine ⟨M', ?_⟩
  unfold jT_keep jT_keep_30
  rw [j_sizeOf hT (pr_oN ha), bi_some, dq_self, j_sizeOf hT (pr_oN hb), bi_some, dq_self, j_sizeOf hT (pr_oN hc), bi_some, dq_self, if_neg (sum_ask ha hb hc), if_neg (by decide), hT.2.1, if_pos (by decide), hf, bi_some, dq_self]
  rfl
theorem m1_ask : ask1 (-1) := Or.inl rfl
theorem z_ask : ask1 0 := Or.inr rfl
theorem r_loop {n : Nat} {a b c : Int32} (h0 : 0 < n) (hn : n < 5) (hT : tabM N [tyN]) (h7 : N 1 7 = nI 1) (h70 : N 7 0 = 0) (ha : ask1 a) (hb : ask1 b) (hc : ask1 c) : ∃ M', jR_type_137 (nI n) a b c 1 D N = some (1, D, M') := by
  have h7' : N 1 7 = 1 := h7
  have s8 : ∀ {M : sm_M} {p j : Nat} {v : Int32}, 1 ≠ p → sm_up M p j v 1 = M 1 := fun h => up_ne h
  have cl1 : (1 : Int32).toNatClampNeg = 1 := rfl
  have e8 : (sm_up (sm_up (sm_up (sm_up N 8 1 (nI n)) 9 1 a) 10 1 b) 11 1 c) 7 0 = 0 := by rw [up_ne (by decide), up_ne (by decide), up_ne (by decide), up_ne (by decide)]; exact h70
  have hT8 : tabM (sm_up (sm_up (sm_up (sm_up N 8 1 (nI n)) 9 1 a) 10 1 b) 11 1 c) [tyN] := tabM_o (fun q h2 h6 => by rw [up_ne (by omega), up_ne (by omega), up_ne (by omega), up_ne (by omega)]) (by rw [up_ne (by decide), up_ne (by decide), up_ne (by decide), up_ne (by decide)]) hT
  have hf : ∃ M', jR_find (nI n) a b c D (sm_up (sm_up (sm_up (sm_up N 8 1 (nI n)) 9 1 a) 10 1 b) 11 1 c) = some (nI 1, D, M') ∧ M' 1 7 = 1 := by
    rcases r_find (D := D) hT8 hn (pr_oN ha) (pr_oN hb) (pr_oN hc) (by decide) with ⟨r, hr, -⟩ | ⟨-, M', h, -, h1, -⟩
    · exact absurd (List.mem_of_getElem? hr) (no_N h0)
    · refine ⟨M', h, ?_⟩
      rw [h1 7 (by decide), up_ne (by decide), up_ne (by decide), up_ne (by decide), up_ne (by decide)]
      exact h7'
  obtain ⟨M', hf, hf7⟩ := hf
  unfold jR_type_137
  refine ⟨sm_up (sm_up M' 7 1 (nI 1)) 1 7 2, sm_lp_end ?_⟩
  show jR_type_137_c (nI n) a b c 1 D N = _
  simp only [jR_type_137_c, sm_wr]
  have k1 : ∀ {ρ : Type} {q : Option ρ}, sm_ck (1 : Int32) 30 q = q := ck_of (by decide)
  rw [h7', if_neg (by decide), r_num h70 ha, bi_some, dq_self, r_sizeOf hT rfl (pr_oN ha), bi_some, dq_self, r_num h70 hb, bi_some, dq_self, r_sizeOf hT rfl (pr_oN hb), bi_some, dq_self, r_num h70 hc, bi_some, dq_self, r_sizeOf hT rfl (pr_oN hc), bi_some, dq_self, if_neg (sum_ask ha hb hc), h7', if_neg (by decide), k1, cl1]
  rw [s8 (show (1 : Nat) ≠ 8 by decide), h7', k1, cl1, s8 (show (1 : Nat) ≠ 9 by decide), s8 (show (1 : Nat) ≠ 8 by decide), h7', k1, cl1, s8 (show (1 : Nat) ≠ 10 by decide), s8 (show (1 : Nat) ≠ 9 by decide), s8 (show (1 : Nat) ≠ 8 by decide), h7', k1, cl1]
  rw [r_num e8 ha, bi_some, dq_self, r_num e8 hb, bi_some, dq_self, r_num e8 hc, bi_some, dq_self, hf, bi_some, dq_self]
  rw [s8 (show (1 : Nat) ≠ 11 by decide), s8 (show (1 : Nat) ≠ 10 by decide), s8 (show (1 : Nat) ≠ 9 by decide), s8 (show (1 : Nat) ≠ 8 by decide), h7', k1, cl1, s8 (show (1 : Nat) ≠ 7 by decide), hf7, up_at]
  rfl
theorem r_125 {n : Nat} {a b c : Int32} (h0 : 0 < n) (hn : n < 5) (hT : tabM N [tyN]) (h7 : N 1 7 = nI 1) (h70 : N 7 0 = 0) (ha : ask1 a) (hb : ask1 b) (hc : ask1 c) : ∃ M', jR_type_125 (nI n) a b c 1 D N = some (1, D, M') := by
  unfold jR_type_125
  rw [if_neg (by decide)]
  exact r_loop h0 hn hT h7 h70 ha hb hc
theorem r_125n {k a b c : Int32} : jR_type_125 k a b c 0 D N = some (-1, D, N) := by
  unfold jR_type_125
  rw [if_pos rfl]
theorem f_type (hC : fr_C Mc) (hM : fr_M Mm) {k a b c : Int32} : lc_two (jA_type k a b c [40, 50, 40, 0, 0] Mc) (jR_type k a b c [] Mm) p1_P := by
  have hT := hC.1
  have h7 : sm_up Mm 1 0 0 1 7 = nI 1 := by rw [up10 (by decide)]; exact hM.2.1
  have h70 : sm_up Mm 1 0 0 7 0 = 0 := by rw [up_ne (by decide)]; exact hM.2.2.1
  have hTM : tabM (sm_up Mm 1 0 0) [tyN] := tabM_o (fun q h2 h6 => up_ne (by omega)) (up10 (by decide)) hM.1
  have hno : jA_type k a b c [40, 50, 40, 0, 0] Mc = some (-1, [40, 50, 40, 0, 0], Mc) → jR_type k a b c [] Mm = some (-1, [], sm_up Mm 1 0 0) → lc_two (jA_type k a b c [40, 50, 40, 0, 0] Mc) (jR_type k a b c [] Mm) p1_P := fun h1 h2 => ⟨-1, _, Mc, _, h1, h2, p1_0⟩
  have hyes : (∃ M', jA_type k a b c [40, 50, 40, 0, 0] Mc = some (1, [40, 50, 40, 0, 0], M')) → (∃ M', jR_type k a b c [] Mm = some (1, [], M')) → lc_two (jA_type k a b c [40, 50, 40, 0, 0] Mc) (jR_type k a b c [] Mm) p1_P := fun ⟨M1, h1⟩ ⟨M2, h2⟩ => ⟨1, _, M1, M2, h1, h2, p1_0⟩
  by_cases hlo : k < 1
  · have hk : k ≠ 1 ∧ k ≠ 2 ∧ k ≠ 3 ∧ k ≠ 4 := ⟨fun q => by subst q; exact absurd hlo (by decide), fun q => by subst q; exact absurd hlo (by decide), fun q => by subst q; exact absurd hlo (by decide), fun q => by subst q; exact absurd hlo (by decide)⟩
    refine hno ?_ ?_
    · unfold jA_type; rw [if_neg hk.1, if_neg hk.2.1, if_neg hk.2.2.1, if_neg hk.2.2.2]
    · simp only [jR_type, sm_wr]; rw [if_pos hlo]; rfl
  · by_cases hhi : (4 : Int32) < k
    · have hk : k ≠ 1 ∧ k ≠ 2 ∧ k ≠ 3 ∧ k ≠ 4 := ⟨fun q => by subst q; exact absurd hhi (by decide), fun q => by subst q; exact absurd hhi (by decide), fun q => by subst q; exact absurd hhi (by decide), fun q => by subst q; exact absurd hhi (by decide)⟩
      refine hno ?_ ?_
      · unfold jA_type; rw [if_neg hk.1, if_neg hk.2.1, if_neg hk.2.2.1, if_neg hk.2.2.2]
      · simp only [jR_type, sm_wr]; rw [if_neg hlo, if_pos hhi]; rfl
    · have two : ∀ n : Nat, n = 1 ∨ n = 2 → k = nI n → lc_two (jA_type k a b c [40, 50, 40, 0, 0] Mc) (jR_type k a b c [] Mm) p1_P := by
        intro n hn hk
        have hn5 : 0 < n ∧ n < 5 := by omega
        have k3 : k ≠ 3 := by rcases hn with rfl | rfl <;> subst hk <;> decide
        have k4 : k ≠ 4 := by rcases hn with rfl | rfl <;> subst hk <;> decide
        have eC : jA_type k a b c [40, 50, 40, 0, 0] Mc = jA_type_32 k a b [40, 50, 40, 0, 0] Mc := by
          unfold jA_type
          rcases hn with rfl | rfl
          · rw [if_pos (show k = 1 from hk)]
          · rw [if_neg (by subst hk; decide), if_pos (show k = 2 from hk)]
        have eR : jR_type k a b c [] Mm = jR_type_40 k a b (-1) [] (sm_up Mm 1 0 0) := by
          simp only [jR_type, sm_wr]
          rw [if_neg hlo, if_neg hhi, if_neg k3]
          unfold jR_type_27
          rw [if_neg k4]
        rw [eC, eR] at hno hyes ⊢
        by_cases ha : a = 0
        · by_cases hb : b = 0
          · refine hyes ?_ ?_
            · subst ha; subst hb; subst hk
              obtain ⟨M', h⟩ := c_keep (D := [40, 50, 40, 0, 0]) hn5.1 hn5.2 hT z_ask z_ask m1_ask
              refine ⟨M', ?_⟩
              unfold jA_type_32
              rw [c_has1 hT, bi_some, dq_self, if_neg (by decide), c_has1 hT, bi_some, dq_self, if_neg (by decide), h, bi_some, dq_self]
              rfl
            · unfold jR_type_40
              rw [if_neg k4, ha, r_made1 h7, bi_some, dq_self, if_neg (by decide), if_neg k3, hb, r_made1 h7, bi_some, dq_self, if_neg (by decide)]
              subst hk
              exact r_125 hn5.1 hn5.2 hTM h7 h70 z_ask z_ask m1_ask
          · refine hno ?_ ?_
            · unfold jA_type_32
              rw [ha, c_has1 hT, bi_some, dq_self, if_neg (by decide), c_has0 hT hb, bi_some, dq_self, if_pos rfl]
              rfl
            · unfold jR_type_40
              rw [if_neg k4, ha, r_made1 h7, bi_some, dq_self, if_neg (by decide), if_neg k3, r_made0 h7 hb, bi_some, dq_self, if_pos rfl]
              exact r_125n
        · refine hno ?_ ?_
          · unfold jA_type_32
            rw [c_has0 hT ha, bi_some, dq_self, if_pos rfl]
            rfl
          · unfold jR_type_40
            rw [if_neg k4, r_made0 h7 ha, bi_some, dq_self, if_pos rfl]
            exact r_125n
      obtain ⟨j, hj, rfl⟩ : ∃ j : Nat, (1 ≤ j ∧ j ≤ 4) ∧ k = nI j := by
        have h5 : ¬ k < 0 := fun q => hlo (Int32.lt_trans q (by decide))
        obtain ⟨j, hj, rfl⟩ := nI_of2 (M := 4) (n := 4) (by decide) h5 (Int32.not_lt.mp hhi)
        refine ⟨j, ⟨?_, hj⟩, rfl⟩
        by_cases hj0 : j = 0
        · subst hj0; exact absurd (by decide) hlo
        · omega
      match j, hj with
      | 1, _ => exact two 1 (Or.inl rfl) rfl
      | 2, _ => exact two 2 (Or.inr rfl) rfl
      | 3, _ =>
        have eC : jA_type (nI 3) a b c [40, 50, 40, 0, 0] Mc = sm_bi (jT_has a [40, 50, 40, 0, 0] Mc) (fun x3 E3 M3 => sm_dq E3 [40, 50, 40, 0, 0] (if x3 = (0 : Int32) then (jA_type_96 (-1 : Int32) [40, 50, 40, 0, 0] M3) else (sm_bi (jT_keep (nI 3) a (-1 : Int32) (-1 : Int32) [40, 50, 40, 0, 0] M3) (fun x4 E4 M4 => sm_dq E4 [40, 50, 40, 0, 0] (jA_type_96 x4 [40, 50, 40, 0, 0] M4))))) := by
          unfold jA_type
          rw [if_neg (show ¬ nI 3 = 1 by decide), if_neg (show ¬ nI 3 = 2 by decide), if_pos (show nI 3 = 3 from rfl)]
        have eR : jR_type (nI 3) a b c [] Mm = jR_type_40 (nI 3) a (-1) (-1) [] (sm_up Mm 1 0 0) := by
          simp only [jR_type, sm_wr]
          rw [if_neg hlo, if_neg hhi, if_pos (show nI 3 = 3 from rfl)]
          unfold jR_type_27
          rw [if_neg (show ¬ nI 3 = 4 by decide)]
        rw [eC, eR] at hno hyes ⊢
        by_cases ha : a = 0
        · refine hyes ?_ ?_
          · obtain ⟨M', h⟩ := c_keep (n := 3) (D := [40, 50, 40, 0, 0]) (by decide) (by decide) hT z_ask m1_ask m1_ask
            refine ⟨M', ?_⟩
            rw [ha, c_has1 hT, bi_some, dq_self, if_neg (by decide), h, bi_some, dq_self]
            rfl
          · unfold jR_type_40
            rw [if_neg (show ¬ nI 3 = 4 by decide), ha, r_made1 h7, bi_some, dq_self, if_neg (by decide), if_pos (show nI 3 = 3 from rfl)]
            exact r_125 (n := 3) (by decide) (by decide) hTM h7 h70 z_ask m1_ask m1_ask
        · refine hno ?_ ?_
          · rw [c_has0 hT ha, bi_some, dq_self, if_pos rfl]
            rfl
          · unfold jR_type_40
            rw [if_neg (show ¬ nI 3 = 4 by decide), r_made0 h7 ha, bi_some, dq_self, if_pos rfl]
            exact r_125n
      | 4, _ =>
        have eC : jA_type (nI 4) a b c [40, 50, 40, 0, 0] Mc = sm_bi (jT_canAsk a b c [40, 50, 40, 0, 0] Mc) (fun x1 E1 M1 => sm_dq E1 [40, 50, 40, 0, 0] (if x1 = (0 : Int32) then (jA_type_127 (-1 : Int32) [40, 50, 40, 0, 0] M1) else (sm_bi (jT_keep (nI 4) a b c [40, 50, 40, 0, 0] M1) (fun x2 E2 M2 => sm_dq E2 [40, 50, 40, 0, 0] (jA_type_127 x2 [40, 50, 40, 0, 0] M2))))) := by
          unfold jA_type
          rw [if_neg (show ¬ nI 4 = 1 by decide), if_neg (show ¬ nI 4 = 2 by decide), if_neg (show ¬ nI 4 = 3 by decide), if_pos (show nI 4 = 4 from rfl)]
        have eR : jR_type (nI 4) a b c [] Mm = jR_type_40 (nI 4) a b c [] (sm_up Mm 1 0 0) := by
          simp only [jR_type, sm_wr]
          rw [if_neg hlo, if_neg hhi, if_neg (show ¬ nI 4 = 3 by decide)]
          unfold jR_type_27
          rw [if_pos (show nI 4 = 4 from rfl)]
        rw [eC, eR] at hno hyes ⊢
        have h75 : (ask1 c → jR_type_75 (nI 4) a b c [] (sm_up Mm 1 0 0) = jR_type_125 (nI 4) a b c 1 [] (sm_up Mm 1 0 0)) ∧ (¬ ask1 c → jR_type_75 (nI 4) a b c [] (sm_up Mm 1 0 0) = some (-1, [], sm_up Mm 1 0 0)) := by
          unfold jR_type_75
          refine ⟨fun hc => ?_, fun hc => ?_⟩
          · rcases hc with hc | hc
            · rw [if_pos hc]; rfl
            · rw [if_neg (by rw [hc]; decide), show jR_isMade c [] (sm_up Mm 1 0 0) = some (1, [], sm_up Mm 1 0 0) by rw [hc]; exact r_made1 h7, bi_some, dq_self, if_neg (by decide)]; rfl
          · rw [if_neg (fun q => hc (Or.inl q)), r_made0 h7 (fun q => hc (Or.inr q)), bi_some, dq_self, if_pos rfl]; exact r_125n
        have h60 : (ask1 b → jR_type_60 (nI 4) a b c [] (sm_up Mm 1 0 0) = jR_type_75 (nI 4) a b c [] (sm_up Mm 1 0 0)) ∧ (¬ ask1 b → jR_type_60 (nI 4) a b c [] (sm_up Mm 1 0 0) = some (-1, [], sm_up Mm 1 0 0)) := by
          unfold jR_type_60
          refine ⟨fun hc => ?_, fun hc => ?_⟩
          · rcases hc with hc | hc
            · rw [if_pos hc]
            · rw [if_neg (by rw [hc]; decide), show jR_isMade b [] (sm_up Mm 1 0 0) = some (1, [], sm_up Mm 1 0 0) by rw [hc]; exact r_made1 h7, bi_some, dq_self, if_neg (by decide)]
          · rw [if_neg (fun q => hc (Or.inl q)), r_made0 h7 (fun q => hc (Or.inr q)), bi_some, dq_self, if_pos rfl]; exact r_125n
        have h40 : (ask1 a → jR_type_40 (nI 4) a b c [] (sm_up Mm 1 0 0) = jR_type_60 (nI 4) a b c [] (sm_up Mm 1 0 0)) ∧ (¬ ask1 a → jR_type_40 (nI 4) a b c [] (sm_up Mm 1 0 0) = some (-1, [], sm_up Mm 1 0 0)) := by
          unfold jR_type_40
          refine ⟨fun hc => ?_, fun hc => ?_⟩
          · rw [if_pos (show nI 4 = 4 from rfl)]
            rcases hc with hc | hc
            · rw [if_pos hc]
            · rw [if_neg (by rw [hc]; decide), show jR_isMade a [] (sm_up Mm 1 0 0) = some (1, [], sm_up Mm 1 0 0) by rw [hc]; exact r_made1 h7, bi_some, dq_self, if_neg (by decide)]
          · rw [if_pos (show nI 4 = 4 from rfl), if_neg (fun q => hc (Or.inl q)), r_made0 h7 (fun q => hc (Or.inr q)), bi_some, dq_self, if_pos rfl]; exact r_125n
        by_cases hall : ask1 a ∧ ask1 b ∧ ask1 c
        · obtain ⟨ha, hb, hc⟩ := hall
          refine hyes ?_ ?_
          · obtain ⟨M', h⟩ := c_keep (n := 4) (D := [40, 50, 40, 0, 0]) (by decide) (by decide) hT ha hb hc
            refine ⟨M', ?_⟩
            rw [c_ask_ok hT ha hb hc, bi_some, dq_self, if_neg (by decide), h, bi_some, dq_self]
            rfl
          · rw [h40.1 ha, h60.1 hb, h75.1 hc]
            exact r_125 (n := 4) (by decide) (by decide) hTM h7 h70 ha hb hc
        · refine hno ?_ ?_
          · rw [c_ask_no hT hall, bi_some, dq_self, if_pos rfl]
            rfl
          · by_cases ha : ask1 a
            · rw [h40.1 ha]
              by_cases hb : ask1 b
              · rw [h60.1 hb]; exact h75.2 (fun q => hall ⟨ha, hb, q⟩)
              · exact h60.2 hb
            · exact h40.2 ha
end
/-! the first call -/
def p1_R (j : Nat) (D : sm_D) (Mc Mm : sm_M) : Prop := (j = 0 ∧ D = [40, 50, 40, 0, 0] ∧ fr_C Mc ∧ fr_M Mm) ∨ (0 < j ∧ p1_P D Mc Mm)
theorem p1_RD (j : Nat) (D : sm_D) (Mc Mm : sm_M) (h : p1_R j D Mc Mm) : ∃ d0 d1 d2 d3 d4, D = [d0, d1, d2, d3, d4] ∧ [d0] ∈ gC := by
  rcases h with ⟨-, rfl, -⟩ | ⟨-, h⟩
  · exact ⟨40, 50, 40, 0, 0, rfl, by decide⟩
  · exact h
theorem lc_two_mono {a b : Option sm_S} {P Q : sm_D → sm_M → sm_M → Prop} (h : lc_two a b P) (hPQ : ∀ D Mc Mm, P D Mc Mm → Q D Mc Mm) : lc_two a b Q := by
  obtain ⟨r, D, Mc, Mm, h1, h2, h3⟩ := h
  exact ⟨r, D, Mc, Mm, h1, h2, hPQ _ _ _ h3⟩
theorem p1_step {o : Nat} {a1 a2 a3 a4 a5 : Int32} {Mc Mm : sm_M} (hC : fr_C Mc) (hM : fr_M Mm) : lw_step o a1 a2 a3 a4 a5 40 50 40 0 0 Mc Mm p1_P := by
  match o with
  | 0 => exact f_type hC hM
  | 1 => exact f_size hC hM
  | 2 => exact f_make hC hM
  | 3 => exact f_is hC hM
  | 4 => exact f_ev hC hM
  | 5 => exact f_steps hC hM
  | 6 => exact f_co hC hM
  | 7 => exact f_clear
  | 8 => exact f_block hC hM
  | 9 => exact f_add hC hM
  | 10 => exact f_check hC hM
  | 11 => exact f_ins hC hM
  | 12 => exact f_look hC hM
  | 13 => exact f_run hC hM
  | 14 => exact f_state hC hM
  | 15 => exact f_reg hC hM
  | k + 16 => exact f_reg hC hM
