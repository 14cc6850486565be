/-! the calls that only tell, and clear -/
theorem nI_mul (a b : Nat) : nI a * nI b = nI (a * b) := (Int32.ofNat_mul a b).symm
theorem nI_sub (a b : Nat) : nI (a + b) - nI b = nI a := by rw [← nI_add, Int32.add_sub_cancel]
theorem nI_3 (i : Nat) : (3 : Int32) * nI i = nI (3 * i) := nI_mul 3 i
theorem ix3 (i k : Nat) : (3 : Int32) * nI i + nI (k + 2) - 2 = nI (3 * i + k) := by
  rw [nI_3, nI_add, ← Nat.add_assoc]
  exact nI_sub (3 * i + k) 2
section
variable {pV : pVt} {p d1 d3 d4 : Nat} {L LM : List Ty} {nC nB : Nat} {W : Nat → Ty} {A : Nat → Option Ty} {Mc Mm N : sm_M} {D : sm_D}
theorem lt_nI {x : Int32} {n : Nat} (hn : n < 2 ^ 31) (h1 : ¬ x < 0) (h2 : x < nI n) : ∃ i : Nat, i < n ∧ x = nI i := by
  obtain ⟨j, hj, rfl⟩ := nI_of h1
  exact ⟨j, (nI_ltI hj hn).mp h2, rfl⟩
theorem q_ins (hp : (p = 40 ∧ d1 = 50) ∨ (p = 50 ∧ d1 = 40)) (h : rl pV p L LM nC nB W A Mc Mm) {a b : Int32} : lc_two (jA_instruction p d1 p d3 d4 a b Mc) (jR_instruction a b [] Mm) (Rl pV) := by
  have h' := h.up0 (v := 0)
  simp only [jR_instruction, sm_wr]
  generalize sm_up Mm 1 0 0 = N at h' ⊢
  have hT := h'.1.2.2.2.2.1
  obtain ⟨c1, c2, c3, c4, c5, c6, c7, c8, c9, c10, c11⟩ := h'.2.2.2.1
  have two : ∀ r : Int32, jC_tellInstruction p a b [p, d1, p, d3, d4] Mc = some (r, [p, d1, p, d3, d4], Mc) → ∀ {q : Option sm_S}, q = some (r, [], N) → lc_two (jA_instruction p d1 p d3 d4 a b Mc) q (Rl pV) := by
    intro r e q eq
    refine ⟨r, [p, d1, p, d3, d4], Mc, N, ?_, eq, Rl.mk hp h'⟩
    unfold jA_instruction
    rw [ga_in (in_gC hp), e, bi_some, dq_self]
  by_cases h1 : a < 0
  · exact two (-1) (by unfold jC_tellInstruction; rw [if_pos h1]; rfl) (by rw [if_pos h1]; rfl)
  · by_cases h2 : a < nI nC
    · obtain ⟨i, hi, rfl⟩ := lt_nI (by omega) h1 h2
      obtain ⟨e1, e2, e3, e4, e5, e6⟩ := c8 i hi
      have hck : ∀ {ρ : Type} {q : Option ρ}, sm_ck (nI i) 300 q = q := ck_nI (by omega) (by decide)
      have hck1 : ∀ {ρ : Type} {q : Option ρ}, sm_ck (nI i) 301 q = q := ck_nI (by omega) (by decide)
      have hcl : (nI i).toNatClampNeg = i := nI_clamp (by omega)
      rw [if_neg h1, c4, if_pos h2]
      have hc : jC_tellInstruction p (nI i) b [p, d1, p, d3, d4] Mc = (if b = (0 : Int32) then (some (N 29 i, [p, d1, p, d3, d4], Mc)) else (if b = (1 : Int32) then (some (N 30 i, [p, d1, p, d3, d4], Mc)) else (if b = (2 : Int32) then (some (N 31 i, [p, d1, p, d3, d4], Mc)) else (if b = (3 : Int32) then (some (Mc (p + 5) i, [p, d1, p, d3, d4], Mc)) else (some ((-1 : Int32), [p, d1, p, d3, d4], Mc)))))) := by
        unfold jC_tellInstruction
        rw [if_neg h1, c3, if_pos h2, hck, hck, hck, hck, hcl, e1, e2, e3]
      by_cases b0 : b = 0
      · exact two (N 29 i) (by rw [hc, if_pos b0]) (by rw [if_pos b0, hck1, hcl]; rfl)
      · by_cases b1 : b = 1
        · exact two (N 30 i) (by rw [hc, if_neg b0, if_pos b1]) (by rw [if_neg b0, if_pos b1, hck1, hcl]; rfl)
        · by_cases b2 : b = 2
          · exact two (N 31 i) (by rw [hc, if_neg b0, if_neg b1, if_pos b2]) (by rw [if_neg b0, if_neg b1, if_pos b2, hck1, hcl]; rfl)
          · by_cases b3 : b = 3
            · refine two (Mc (p + 5) i) (by rw [hc, if_neg b0, if_neg b1, if_neg b2, if_pos b3]) ?_
              rw [if_neg b0, if_neg b1, if_neg b2, if_pos b3, hck1, hcl]
              by_cases h7 : N 29 i = 7
              · obtain ⟨f1, f2, -⟩ := e6 h7
                rcases f1 with ⟨f, -⟩ | ⟨r, t, f3, f4, f5⟩
                · cases f
                · have e := Option.some.inj f3
                  have hr := (List.getElem?_eq_some_iff.mp f4).1
                  have hl := hT.1
                  rw [if_pos h7, hck1, f5, ck_nI (by omega) (by decide), nI_clamp (by omega), (hT.2.2.2 r t f4).2, f2, e]
                  rfl
              · rw [if_neg h7, hck1, (e5 h7).2]
                rfl
            · exact two (-1) (by rw [hc, if_neg b0, if_neg b1, if_neg b2, if_neg b3]) (by rw [if_neg b0, if_neg b1, if_neg b2, if_neg b3]; rfl)
    · refine two (-1) ?_ ?_
      · unfold jC_tellInstruction
        rw [if_neg h1, c3, if_neg h2]; rfl
      · rw [if_neg h1, c4, if_neg h2]; rfl
theorem c_hasB (hn : nB ≤ 40) (hB : Mc p 11 = nI nB) (x : Int32) : (∃ i : Nat, i < nB ∧ x = nI i ∧ jC_hasBlock p x D Mc = some (1, D, Mc)) ∨ (¬ (¬ x < 0 ∧ x < nI nB) ∧ jC_hasBlock p x D Mc = some (0, D, Mc)) := by
  unfold jC_hasBlock
  by_cases h1 : x < 0
  · exact Or.inr ⟨fun q => q.1 h1, by rw [if_pos h1]; exact bo_0⟩
  · by_cases h2 : x < nI nB
    · obtain ⟨i, hi, rfl⟩ := lt_nI (by omega) h1 h2
      exact Or.inl ⟨i, hi, rfl, by rw [if_neg h1, hB, if_pos h2]; exact bo_1⟩
    · exact Or.inr ⟨fun q => h2 q.2, by rw [if_neg h1, hB, if_neg h2]; exact bo_0⟩
theorem q_look (hp : (p = 40 ∧ d1 = 50) ∨ (p = 50 ∧ d1 = 40)) (h : rl pV p L LM nC nB W A Mc Mm) {a b : Int32} : lc_two (jA_look p d1 p d3 d4 a b Mc) (jR_look a b [] Mm) (Rl pV) := by
  have h' := h.up0 (v := 0)
  simp only [jR_look, sm_wr]
  generalize sm_up Mm 1 0 0 = N at h' ⊢
  have hT := h'.1.2.2.2.2.1
  obtain ⟨c1, c2, c3, c4, c5, c6, c7, c8, c9, c10, c11⟩ := h'.2.2.2.1
  have two : ∀ r : Int32, jC_tellBlock p a b [p, d1, p, d3, d4] Mc = some (r, [p, d1, p, d3, d4], Mc) → ∀ {q : Option sm_S}, q = some (r, [], N) → lc_two (jA_look p d1 p d3 d4 a b Mc) q (Rl pV) := by
    intro r e q eq
    refine ⟨r, [p, d1, p, d3, d4], Mc, N, ?_, eq, Rl.mk hp h'⟩
    unfold jA_look
    rw [ga_in (in_gC hp), e, bi_some, dq_self]
  rcases c_hasB (D := [p, d1, p, d3, d4]) c2 c5 a with ⟨i, hi, rfl, hb⟩ | ⟨hno, hb⟩
  · have h1 : ¬ nI i < 0 := nI_pos (by omega)
    have h2 : nI i < nI nB := nI_lt hi (by omega)
    obtain ⟨s, l, e0, e1, e2, e3, e4⟩ := c9 i hi
    have hck : ∀ {ρ : Type} {q : Option ρ}, sm_ck (nI i) 40 q = q := ck_nI (by omega) (by decide)
    have hck1 : ∀ {ρ : Type} {q : Option ρ}, sm_ck (nI i) 41 q = q := ck_nI (by omega) (by decide)
    have hcl : (nI i).toNatClampNeg = i := nI_clamp (by omega)
    have hc : jC_tellBlock p (nI i) b [p, d1, p, d3, d4] Mc = (if b = (0 : Int32) then (some (nI s, [p, d1, p, d3, d4], Mc)) else (if b = (1 : Int32) then (some (nI l, [p, d1, p, d3, d4], Mc)) else (if b = (2 : Int32) then (jC_tellBlock_58 p (nI i) b [p, d1, p, d3, d4] Mc) else (if b = (3 : Int32) then (jC_tellBlock_58 p (nI i) b [p, d1, p, d3, d4] Mc) else (if b = (4 : Int32) then (jC_tellBlock_58 p (nI i) b [p, d1, p, d3, d4] Mc) else (some ((-1 : Int32), [p, d1, p, d3, d4], Mc))))))) := by
      unfold jC_tellBlock
      rw [ga_in (in_gC hp), hb, bi_some, dq_self, if_neg (by decide), hck, hck, hcl, e1, e3, eqp_self]
    rw [if_neg h1, c6, if_pos h2]
    by_cases b0 : b = 0
    · exact two (nI s) (by rw [hc, if_pos b0]) (by rw [b0, if_neg (by decide), if_neg (by decide), if_pos rfl, hck1, hcl, e2]; rfl)
    · by_cases b1 : b = 1
      · exact two (nI l) (by rw [hc, if_neg b0, if_pos b1]) (by rw [b1, if_neg (by decide), if_neg (by decide), if_neg (by decide), if_pos rfl, hck1, hcl, e4]; rfl)
      · have sz : ∀ k : Nat, k < 3 → b = nI (k + 2) → lc_two (jA_look p d1 p d3 d4 (nI i) b Mc) (sm_ck ((((3 : Int32) * nI i) + b) - (2 : Int32)) 123 (sm_bi (jR_sizeOf (N 35 (Int32.toNatClampNeg ((((3 : Int32) * nI i) + b) - (2 : Int32)))) [] N) (fun x2 E2 M2 => sm_dq E2 [] (jR_look_71 x2 [] M2)))) (Rl pV) := by
          intro k hk e
          have hk2 : jC_tellBlock p (nI i) b [p, d1, p, d3, d4] Mc = jC_tellBlock_58 p (nI i) b [p, d1, p, d3, d4] Mc := by
            rw [hc, if_neg b0, if_neg b1]
            match k, hk with
            | 0, _ => rw [if_pos (show b = 2 from e)]
            | 1, _ => rw [if_neg (by rw [e]; decide), if_pos (show b = 3 from e)]
            | 2, _ => rw [if_neg (by rw [e]; decide), if_neg (by rw [e]; decide), if_pos (show b = 4 from e)]
          obtain ⟨f1, f2⟩ := c10 (3 * i + k) (by omega)
          have ix := ix3 i k
          refine two (nI (ty_so (A (3 * i + k)))) ?_ ?_
          · rw [hk2]
            unfold jC_tellBlock_58
            rw [e, ix, ck_nI (by omega) (by decide), nI_clamp (by omega), f2]
          · rw [e, ix, ck_nI (by omega) (by decide), nI_clamp (by omega), r_sizeOf hT rfl f1, bi_some, dq_self]
            rfl
        by_cases h3 : b < 0
        · refine two (-1) ?_ (by rw [if_pos h3]; rfl)
          rw [hc, if_neg b0, if_neg b1, if_neg (fun q => by rw [q] at h3; exact absurd h3 (by decide)), if_neg (fun q => by rw [q] at h3; exact absurd h3 (by decide)), if_neg (fun q => by rw [q] at h3; exact absurd h3 (by decide))]
        · by_cases h4 : (4 : Int32) < b
          · refine two (-1) ?_ (by rw [if_neg h3, if_pos h4]; rfl)
            rw [hc, if_neg b0, if_neg b1, if_neg (fun q => by rw [q] at h4; exact absurd h4 (by decide)), if_neg (fun q => by rw [q] at h4; exact absurd h4 (by decide)), if_neg (fun q => by rw [q] at h4; exact absurd h4 (by decide))]
          · obtain ⟨j, hj, e⟩ := nI_of2 (M := 4) (n := 4) (by decide) h3 (Int32.not_lt.mp h4)
            rw [if_neg h3, if_neg h4, if_neg b0, if_neg b1]
            match j, hj, e with
            | 0, _, e => exact absurd e b0
            | 1, _, e => exact absurd e b1
            | 2, _, e => exact sz 0 (by decide) e
            | 3, _, e => exact sz 1 (by decide) e
            | 4, _, e => exact sz 2 (by decide) e
  · refine two (-1) ?_ ?_
    · unfold jC_tellBlock
      rw [ga_in (in_gC hp), hb, bi_some, dq_self, if_pos rfl]
    · by_cases h1 : a < 0
      · rw [if_pos h1]; rfl
      · rw [if_neg h1, c6, if_neg (fun q => hno ⟨h1, q⟩)]; rfl
/-- both machines begin -/
theorem rlM_new {X Y : sm_M} : rlM nB (bgM X) (rsM Y) := by
  refine ⟨rfl, 0, by decide, rfl, rfl, ?_, fun j hj => absurd hj (by omega), fun _ => Or.inl ⟨rfl, rfl, rfl, rfl⟩⟩
  have o1 : okv 0 1 0 := ⟨fun q => absurd q (by decide), fun q => absurd q (by decide)⟩
  have o0 : okv 0 0 0 := ⟨fun q => absurd q (by decide), fun q => absurd q (by decide)⟩
  exact k1_5 ⟨rfl, rfl, o1⟩ ⟨rfl, rfl, o0⟩ ⟨rfl, rfl, o0⟩ ⟨rfl, rfl, o0⟩ ⟨rfl, rfl, o0⟩
theorem bgM_o {X : sm_M} {q : Nat} (h33 : q ≠ 33) (h34 : q ≠ 34) (h35 : q ≠ 35) : bgM X q = X q := by
  unfold bgM
  rw [up_ne h34, flM_ne h35, flM_ne h34, up_ne h33, up_ne h33, up_ne h33, up_ne h33]
theorem rsM_o {X : sm_M} {q : Nat} (h1 : q ≠ 1) (h47 : q ≠ 47) (h48 : q ≠ 48) : rsM X q = X q := by
  unfold rsM rs1
  rw [up_ne h1, up_ne h1, up_ne h48, up_ne h47, up_ne h48, up_ne h47, up_ne h48, up_ne h47, up_ne h48, up_ne h47, up_ne h48, up_ne h47, up_ne h1, up_ne h1]
theorem rsM_1 {X : sm_M} {j : Nat} (h66 : j ≠ 66) (h67 : j ≠ 67) (h68 : j ≠ 68) (h69 : j ≠ 69) : rsM X 1 j = X 1 j := by
  unfold rsM rs1
  rw [up_as h68, up_as h67, up_ne (by decide), up_ne (by decide), up_ne (by decide), up_ne (by decide), up_ne (by decide), up_ne (by decide), up_ne (by decide), up_ne (by decide), up_ne (by decide), up_ne (by decide), up_as h69, up_as h66]
/-- what stays as it was when the machines begin anew -/
theorem rl_begin {X Y : sm_M} (hp : (p = 40 ∧ d1 = 50) ∨ (p = 50 ∧ d1 = 40)) (h1 : rlT L LM X Y) (h2 : rlE L X Y) (h3 : Y 1 29 = X 18 8 ∧ X 25 0 = 0) (h4 : rlC pV p L LM nC nB W A X Y) : rl pV p L LM nC nB W A (bgM X) (rsM Y) := by
  have c : ∀ q, q ≠ 33 → q ≠ 34 → q ≠ 35 → bgM X q = X q := fun q => bgM_o
  have m : ∀ q, q ≠ 1 → q ≠ 47 → q ≠ 48 → rsM Y q = Y q := fun q => rsM_o
  refine ⟨h1.o (fun q hq => c q (by omega) (by omega) (by omega)) (fun q a b => m q (by omega) (by omega) (by omega)) (rsM_1 (by decide) (by decide) (by decide) (by decide)) (rsM_1 (by decide) (by decide) (by decide) (by decide)), h2.o (fun q a b => c q (by omega) (by omega) (by omega)) (fun q a b => m q (by omega) (by omega) (by omega)) (rsM_1 (by decide) (by decide) (by decide) (by decide)), ?_, h4.o (fun q a b => c q (by omega) (by omega) (by omega)) (fun q a b => m q (by omega) (by omega) (by omega)) (rsM_1 (by decide) (by decide) (by decide) (by decide)) (rsM_1 (by decide) (by decide) (by decide) (by decide)) (rsM_1 (by decide) (by decide) (by decide) (by decide)), rlM_new⟩
  rw [rsM_1 (by decide) (by decide) (by decide) (by decide), c 18 (by decide) (by decide) (by decide), c 25 (by decide) (by decide) (by decide)]
  exact h3
theorem q_clear (hp : (p = 40 ∧ d1 = 50) ∨ (p = 50 ∧ d1 = 40)) (h : rl pV p L LM nC nB W A Mc Mm) : lc_two (jA_clear p d1 p d3 d4 Mc) (jR_clear [] Mm) (Rl pV) := by
  have hp' : p = 40 ∨ p = 50 := by omega
  refine ⟨0, [p, d1, p, d3, d4], bgM (sm_up (sm_up (sm_up (sm_up (sm_up Mc p 6 0) p 11 0) p 12 (-1)) p 13 0) p 15 0), rsM (sm_up (sm_up (sm_up (sm_up Mm 1 0 0) 1 38 0) 1 39 0) 1 37 0), ?_, ?_, ?_⟩
  · unfold jA_clear
    rw [ga_in (in_gC hp)]
    simp only [jC_wipe, sm_wr, bo_0]
    rw [bi_some, dq_self, ga_in (in_gC hp), j_begin, bi_some, dq_self]
  · simp only [jR_clear, sm_wr, bo_0]
    rw [r_restart, bi_some, dq_self]
  · obtain ⟨h1, h2, h3, h4, h5⟩ := h
    have c : ∀ q, q ≠ p → (sm_up (sm_up (sm_up (sm_up (sm_up Mc p 6 0) p 11 0) p 12 (-1)) p 13 0) p 15 0) q = Mc q := fun q hq => by rw [up_ne hq, up_ne hq, up_ne hq, up_ne hq, up_ne hq]
    have m : ∀ q, q ≠ 1 → (sm_up (sm_up (sm_up (sm_up Mm 1 0 0) 1 38 0) 1 39 0) 1 37 0) q = Mm q := fun q hq => by rw [up_ne hq, up_ne hq, up_ne hq, up_ne hq]
    have f : ∀ j, j ≠ 0 → j ≠ 37 → j ≠ 38 → j ≠ 39 → (sm_up (sm_up (sm_up (sm_up Mm 1 0 0) 1 38 0) 1 39 0) 1 37 0) 1 j = Mm 1 j := fun j a b c d => by rw [up_as b, up_as d, up_as c, up_as a]
    refine Rl.mk (nC := 0) (nB := 0) (W := W) (A := A) hp (rl_begin hp (h1.o (fun q hq => c q (by omega)) (fun q a b => m q (by omega)) (f 1 (by decide) (by decide) (by decide) (by decide)) (f 7 (by decide) (by decide) (by decide) (by decide))) (h2.o (fun q a b => c q (by omega)) (fun q a b => m q (by omega)) (f 13 (by decide) (by decide) (by decide) (by decide))) ?_ ?_)
    · rw [f 29 (by decide) (by decide) (by decide) (by decide), c 18 (by omega), c 25 (by omega)]
      exact h3
    · refine ⟨by decide, by decide, ?_, ?_, ?_, ?_, ?_, fun i hi => absurd hi (by omega), fun i hi => absurd hi (by omega), fun i hi => absurd hi (by omega), Or.inl ⟨?_, fun i hi => absurd hi (by omega), fun i hi => absurd hi (by omega), fun q => absurd q (by omega)⟩⟩
      · rw [up_as (by decide), up_as (by decide), up_as (by decide), up_as (by decide), up_at]; rfl
      · rw [up_as (by decide), up_at]; rfl
      · rw [up_as (by decide), up_as (by decide), up_as (by decide), up_at]; rfl
      · rw [up_as (by decide), up_as (by decide), up_at]; rfl
      · rw [up_at, up_as (by decide), up_at]
      · rw [up_as (by decide), up_at]
end
