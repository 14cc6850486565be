/-! the first call on fresh objects: block and type -/
section
variable {Mc Mm N : sm_M} {D : sm_D} {L : List Ty}
/-- the class's types read no memory but their own -/
theorem tabC_o {M M' : sm_M} (h : ∀ q, q ≤ 8 → M' q = M q) (hT : tabC M L) : tabC M' L := by
  have h1 := h 1 (by decide)
  have h2 := h 2 (by decide)
  have h3 := h 3 (by decide)
  have h4 := h 4 (by decide)
  have h5 := h 5 (by decide)
  have h6 := h 6 (by decide)
  have h7 := h 7 (by decide)
  have h8 := h 8 (by decide)
  have hb : tbk M' = tbk M := by funext i; unfold tbk; rw [h2, h3, h4, h5]
  unfold tabC at hT ⊢
  rw [h1, h2, h3, h4, h5, h6, h7, h8, hb]
  exact hT
theorem tabM_o {M M' : sm_M} (h : ∀ q, 2 ≤ q → q ≤ 6 → M' q = M q) (h1 : M' 1 1 = M 1 1) (hT : tabM M L) : tabM M' L := by
  have h2 := h 2 (by decide) (by decide)
  have h3 := h 3 (by decide) (by decide)
  have h4 := h 4 (by decide) (by decide)
  have h5 := h 5 (by decide) (by decide)
  have h6 := h 6 (by decide) (by decide)
  unfold tabM at hT ⊢
  rw [h1, h2, h3, h4, h5, h6]
  exact hT
/-- what may be asked of a fresh object -/
def ask1 (x : Int32) : Prop := x = -1 ∨ x = 0
theorem c_ask_ok {a b c : Int32} (hT : tabC Mc [tyN]) (ha : ask1 a) (hb : ask1 b) (hc : ask1 c) : jT_canAsk a b c D Mc = some (1, D, Mc) := by
  have h26 : jT_canAsk_26 c D Mc = some (1, D, Mc) := by
    unfold jT_canAsk_26
    rcases hc with rfl | rfl
    · rw [if_pos rfl]; rfl
    · rw [if_neg (by decide), c_has1 hT, bi_some, dq_self, if_neg (by decide)]; rfl
  have h13 : jT_canAsk_13 b c D Mc = some (1, D, Mc) := by
    unfold jT_canAsk_13
    rcases hb with rfl | rfl
    · rw [if_pos rfl]; exact h26
    · rw [if_neg (by decide), c_has1 hT, bi_some, dq_self, if_neg (by decide)]; exact h26
  unfold jT_canAsk
  rcases ha with rfl | rfl
  · rw [if_pos rfl]; exact h13
  · rw [if_neg (by decide), c_has1 hT, bi_some, dq_self, if_neg (by decide)]; exact h13
theorem c_ask_no {a b c : Int32} (hT : tabC Mc [tyN]) (h : ¬ (ask1 a ∧ ask1 b ∧ ask1 c)) : jT_canAsk a b c D Mc = some (0, D, Mc) := by
  have key : ∀ {x : Int32}, ¬ ask1 x → jT_has x D Mc = some (0, D, Mc) := fun {x} hx => c_has0 hT (fun q => hx (Or.inr q))
  have h26 : ¬ ask1 c → jT_canAsk_26 c D Mc = some (0, D, Mc) := by
    intro hc
    unfold jT_canAsk_26
    rw [if_neg (fun q => hc (Or.inl q)), key hc, bi_some, dq_self, if_pos rfl]; rfl
  have h13 : ¬ (ask1 b ∧ ask1 c) → jT_canAsk_13 b c D Mc = some (0, D, Mc) := by
    intro hbc
    unfold jT_canAsk_13
    by_cases hb : ask1 b
    · have hc := h26 (fun q => hbc ⟨hb, q⟩)
      rcases hb with rfl | rfl
      · rw [if_pos rfl]; exact hc
      · rw [if_neg (by decide), c_has1 hT, bi_some, dq_self, if_neg (by decide)]; exact hc
    · rw [if_neg (fun q => hb (Or.inl q)), key hb, bi_some, dq_self, if_pos rfl]; rfl
  unfold jT_canAsk
  by_cases ha : ask1 a
  · have hb := h13 (fun q => h ⟨ha, q.1, q.2⟩)
    rcases ha with rfl | rfl
    · rw [if_pos rfl]; exact hb
    · rw [if_neg (by decide), c_has1 hT, bi_some, dq_self, if_neg (by decide)]; exact hb
  · rw [if_neg (fun q => ha (Or.inl q)), key ha, bi_some, dq_self, if_pos rfl]; rfl
theorem r_ask_ok {x : Int32} (h : N 1 7 = nI 1) (hx : ask1 x) : jR_isAsked x D N = some (1, D, N) := by
  unfold jR_isAsked
  rcases hx with rfl | rfl
  · rw [if_pos rfl]; rfl
  · rw [if_neg (by decide), r_made1 h, bi_some, dq_self, if_neg (by decide)]; rfl
theorem r_ask_no {x : Int32} (h : N 1 7 = nI 1) (hx : ¬ ask1 x) : jR_isAsked x D N = some (0, D, N) := by
  unfold jR_isAsked
  rw [if_neg (fun q => hx (Or.inl q)), r_made0 h (fun q => hx (Or.inr q)), bi_some, dq_self, if_pos rfl]; rfl
theorem r_num {x : Int32} (h : N 7 0 = 0) (hx : ask1 x) : jR_numberOf x D N = some (x, D, N) := by
  unfold jR_numberOf
  rcases hx with rfl | rfl
  · rw [if_pos (by decide)]; rfl
  · rw [if_neg (by decide), ck_0 (by decide), show (0 : Int32).toNatClampNeg = 0 from rfl, h]; rfl
theorem pr_ask {x : Int32} (hx : ask1 x) : ty_pr [tyN] x (if x = -1 then none else some tyN) := by
  rcases hx with rfl | rfl
  · exact Or.inl ⟨rfl, rfl⟩
  · exact pr_N
theorem c_ask {p : Nat} {x y : Int32} {i : Nat} (hp : p = 40) (hi : x = nI i) (hi2 : i < 120) (hT : tabC N [tyN]) (hy : ask1 y) : ∃ v, jC_ask p x y D N = some (0, D, sm_up (sm_up N (p + 8) i y) (p + 9) i v) := by
  subst hp; subst hi
  have hck : ∀ {ρ : Type} {q : Option ρ}, sm_ck (nI i) 120 q = q := ck_nI hi2 (by decide)
  have hT1 : tabC (sm_up N (40 + 8) i y) [tyN] := tabC_o (fun q hq => up_ne (by omega)) hT
  refine ⟨nI (ty_so (if y = -1 then none else some tyN)), ?_⟩
  simp only [jC_ask, sm_wr]
  rw [hck, nI_clamp (by omega), j_sizeOf hT1 (pr_ask hy), bi_some, dq_self, hck]
theorem f_block (hC : fr_C Mc) (hM : fr_M Mm) {a b c : Int32} : lc_two (jA_block 40 50 40 0 0 a b c Mc) (jR_block a b c [] Mm) p1_P := by
  obtain ⟨hT, -, -, -, -, -, h6, h11, h13, -, -⟩ := hC
  obtain ⟨-, m17, m70, -, -, m37, m38, m39, -, -, -, -, -⟩ := hM
  have h7 : sm_up Mm 1 0 0 1 7 = nI 1 := by rw [up10 (by decide)]; exact m17
  by_cases hall : ask1 a ∧ ask1 b ∧ ask1 c
  · obtain ⟨ha, hb, hc⟩ := hall
    have hcl : ∃ M', jA_block 40 50 40 0 0 a b c Mc = some (0, [40, 50, 40, 0, 0], M') := by
      unfold jA_block
      rw [if_pos h13, if_neg (by rw [h11]; decide), c_ask_ok hT ha hb hc, bi_some, dq_self, if_neg (by decide), ga_in (by decide)]
      have e1 : jC_reserve 40 [40, 50, 40, 0, 0] Mc = some (0, [40, 50, 40, 0, 0], sm_up (sm_up Mc 47 0 0) 40 11 1) := by
        simp only [jC_reserve, sm_wr]
        rw [if_neg (by rw [h11]; decide), h11, ck_0 (by decide), up_ne (show (40 : Nat) ≠ 40 + 7 by decide), h11, up_at]
        rfl
      rw [e1, bi_some, dq_self, ga_in (by decide)]
      have hbk : jC_hasBlock 40 0 [40, 50, 40, 0, 0] (sm_up (sm_up Mc 47 0 0) 40 11 1) = some (1, [40, 50, 40, 0, 0], sm_up (sm_up Mc 47 0 0) 40 11 1) := by
        unfold jC_hasBlock
        rw [if_neg (by decide), up_at, if_pos (by decide)]
        rfl
      have hT2 : tabC (sm_up (sm_up (sm_up (sm_up Mc 47 0 0) 40 11 1) 40 12 0) 46 0 0) [tyN] := tabC_o (fun q hq => by rw [up_ne (by omega), up_ne (by omega), up_ne (by omega), up_ne (by omega)]) hT
      obtain ⟨v1, a1⟩ := c_ask (D := [40, 50, 40, 0, 0]) (p := 40) (x := (3 : Int32) * 0) (i := 0) rfl rfl (by decide) hT2 ha
      have hT3 := tabC_o (M' := sm_up (sm_up (sm_up (sm_up (sm_up (sm_up Mc 47 0 0) 40 11 1) 40 12 0) 46 0 0) (40 + 8) 0 a) (40 + 9) 0 v1) (fun q hq => by rw [up_ne (by omega), up_ne (by omega)]) hT2
      obtain ⟨v2, a2⟩ := c_ask (D := [40, 50, 40, 0, 0]) (p := 40) (x := (3 : Int32) * 0 + 1) (i := 1) rfl rfl (by decide) hT3 hb
      have hT4 := tabC_o (M' := sm_up (sm_up (sm_up (sm_up (sm_up (sm_up (sm_up (sm_up Mc 47 0 0) 40 11 1) 40 12 0) 46 0 0) (40 + 8) 0 a) (40 + 9) 0 v1) (40 + 8) 1 b) (40 + 9) 1 v2) (fun q hq => by rw [up_ne (by omega), up_ne (by omega)]) hT3
      obtain ⟨v3, a3⟩ := c_ask (D := [40, 50, 40, 0, 0]) (p := 40) (x := (3 : Int32) * 0 + 2) (i := 2) rfl rfl (by decide) hT4 hc
      have e2 : ∃ M', jC_open 40 0 a b c [40, 50, 40, 0, 0] (sm_up (sm_up Mc 47 0 0) 40 11 1) = some (0, [40, 50, 40, 0, 0], M') := by
        simp only [jC_open, sm_wr]
        have h60 : sm_up (sm_up (sm_up Mc 47 0 0) 40 11 1) 40 12 0 40 6 = 0 := by rw [up_as (by decide), up_as (by decide), up_ne (by decide)]; exact h6
        rw [ga_in (by decide), hbk, bi_some, dq_self, if_neg (by decide), ck_0 (by decide), h60, show (0 : Int32).toNatClampNeg = 0 from rfl, ga_in (by decide), a1, bi_some, dq_self, ga_in (by decide), a2, bi_some, dq_self, ga_in (by decide), a3, bi_some, dq_self]
        exact ⟨_, rfl⟩
      obtain ⟨M', e2⟩ := e2
      rw [e2, bi_some, dq_self, ga_in (by decide), j_begin, bi_some, dq_self]
      exact ⟨_, rfl⟩
    have hrf : ∃ M', jR_block a b c [] Mm = some (0, [], M') := by
      have n70 : sm_up Mm 1 0 0 7 0 = 0 := by rw [up_ne (by decide)]; exact m70
      simp only [jR_block, sm_wr]
      rw [r_ask_ok h7 ha, bi_some, dq_self, if_neg (by decide), r_ask_ok h7 hb, bi_some, dq_self, if_neg (by decide), r_ask_ok h7 hc, bi_some, dq_self, if_neg (by decide), if_pos (by rw [up10 (by decide)]; exact m37), if_neg (by rw [up10 (by decide), m38]; decide), r_num n70 ha, bi_some, dq_self, r_num n70 hb, bi_some, dq_self, r_num n70 hc, bi_some, dq_self, up10 (by decide), m38]
      have e3 : ∃ M', jR_beginBlock 0 a b c [] (sm_up Mm 1 0 0) = some (0, [], M') ∧ M' 1 38 = 0 := by
        simp only [jR_beginBlock, sm_wr]
        rw [ck_0 (by decide), ck_0 (by decide), ck_of (by decide), ck_of (by decide), ck_of (by decide)]
        refine ⟨_, rfl, ?_⟩
        rw [up_ne (by decide), up_ne (by decide), up_ne (by decide), up_ne (by decide), up_ne (by decide), up_as (by decide), up10 (by decide)]
        exact m38
      obtain ⟨M', e3, e4⟩ := e3
      rw [e3, bi_some, dq_self, r_restart, bi_some, dq_self]
      have : rsM (sm_up M' 1 38 (M' 1 38 + 1)) 1 38 = M' 1 38 + 1 := rfl
      rw [this, e4]
      exact ⟨_, rfl⟩
    obtain ⟨M1, h1⟩ := hcl
    obtain ⟨M2, h2⟩ := hrf
    exact ⟨0, _, M1, M2, h1, h2, p1_0⟩
  · refine ⟨-1, [40, 50, 40, 0, 0], Mc, sm_up Mm 1 0 0, ?_, ?_, p1_0⟩
    · unfold jA_block
      rw [if_pos h13, if_neg (by rw [h11]; decide), c_ask_no hT hall, bi_some, dq_self, if_pos rfl, dq_self]
      rfl
    · simp only [jR_block, sm_wr]
      by_cases ha : ask1 a
      · rw [r_ask_ok h7 ha, bi_some, dq_self, if_neg (by decide)]
        by_cases hb : ask1 b
        · have hc : ¬ ask1 c := fun q => hall ⟨ha, hb, q⟩
          rw [r_ask_ok h7 hb, bi_some, dq_self, if_neg (by decide), r_ask_no h7 hc, bi_some, dq_self, if_pos rfl]
          rfl
        · rw [r_ask_no h7 hb, bi_some, dq_self, if_pos rfl]
          rfl
      · rw [r_ask_no h7 ha, bi_some, dq_self, if_pos rfl]
        rfl
end
