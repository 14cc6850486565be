/-! evaluation: what both sides hold -/
/-- the environment: the class's frame x, the reference's link y, the types bound -/
def vE (nF : Nat) (TF : Nat → List Ty) (x y : Int32) (env : List Ty) : Prop := (x = -1 ∧ y = -1 ∧ env = []) ∨ ∃ f, f < nF ∧ x = nI f ∧ y = nI (2 * f + 1) ∧ env = TF f
/-- a value -/
def vV (nE : Nat) (B : sm_M) (L : List Ty) (nF : Nat) (TV : Nat → Ty) (TF : Nat → List Ty) (Mc Mm : sm_M) (i : Nat) : Prop :=
  (Mc 19 i = 0 ∧ Mm 25 i = Mc 20 i ∧ TV i = tyN) ∨
  (∃ a b, a < i ∧ b < i ∧ Mc 19 i = 1 ∧ Mc 20 i = nI a ∧ Mm 25 i = nI a ∧ Mc 21 i = nI b ∧ Mm 26 i = nI b ∧ TV i = tyP (TV a) (TV b)) ∨
  (∃ e env m a b, e < nE ∧ Mc 19 i = 2 ∧ Mc 20 i = nI e ∧ Mm 25 i = nI e ∧ vE nF TF (Mc 21 i) (Mm 26 i) env ∧ B 10 e = 6 ∧ TV i = tyF a b ∧ pT (B 10) (B 11) (B 12) (B 13) (B 14) L m (a :: TV i :: env) (xN (B 12) e) b)
/-- a frame -/
def vF (nV : Nat) (TV : Nat → Ty) (TF : Nat → List Ty) (Mc Mm : sm_M) (f : Nat) : Prop := ∃ a b env, a < nV ∧ b < nV ∧ Mc 22 f = nI a ∧ Mc 23 f = nI b ∧ Mm 27 (2 * f) = nI a ∧ Mm 27 (2 * f + 1) = nI b ∧ Mm 28 (2 * f + 1) = nI (2 * f) ∧ vE f TF (Mc 21 a) (Mm 28 (2 * f)) env ∧ TF f = TV b :: TV a :: env
/-- what an evaluation leaves alone -/
def vO (B Bm Mc Mm : sm_M) : Prop := (∀ q, q < 18 ∨ 23 < q → Mc q = B q) ∧ (∀ q, (2 ≤ q ∧ q ≤ 17) ∨ 28 < q → Mm q = Bm q) ∧ ∀ j, j ≠ 20 → j ≠ 22 → j ≠ 29 → j ≠ 30 → j ≠ 31 → Mm 1 j = Bm 1 j
def vS (nE : Nat) (B Bm : sm_M) (L : List Ty) (nV nF s : Nat) (TV : Nat → Ty) (TF : Nat → List Ty) (Mc Mm : sm_M) : Prop := (s ≤ 500 ∧ nV ≤ s ∧ 3 * nF ≤ s) ∧ (Mc 18 4 = nI nV ∧ Mc 18 7 = nI nF ∧ Mc 18 8 = nI s ∧ Mc 18 9 = 0) ∧ (Mm 1 29 = nI s ∧ Mm 1 30 = nI nV ∧ Mm 1 31 = nI (2 * nF)) ∧ (∀ i, i < nV → vV nE B L nF TV TF Mc Mm i) ∧ (∀ f, f < nF → vF nV TV TF Mc Mm f) ∧ vO B Bm Mc Mm
section
variable {nE : Nat} {B Bm : sm_M} {L : List Ty} {nV nF s : Nat} {TV : Nat → Ty} {TF : Nat → List Ty} {Mc Mm : sm_M} {D : sm_D} {x y : Int32} {env : List Ty}
theorem vE.mono {nF' : Nat} {TF' : Nat → List Ty} (h : vE nF TF x y env) (hn : nF ≤ nF') (hT : ∀ f, f < nF → TF' f = TF f) : vE nF' TF' x y env := by
  rcases h with ⟨h1, h2, h3⟩ | ⟨f, h1, h2, h3, h4⟩
  · exact Or.inl ⟨h1, h2, h3⟩
  · exact Or.inr ⟨f, by omega, h2, h3, by rw [hT f h1]; exact h4⟩
/-- both sides look a variable up -/
theorem v_walk (hS : vS nE B Bm L nV nF s TV TF Mc Mm) {e v : Nat} (he : e < 40) (hv : v ≤ 20) (h13 : Mm 13 e = nI v) {t : Ty} : ∀ (r : Nat) (x y : Int32) (env : List Ty), r ≤ v → (v - r) % 2 = 0 → vE nF TF x y env → env[r]? = some t → ∃ w, w < nV ∧ TV w = t ∧ jV_ofVariable_5 (nI v) x (nI r) D Mc = some (nI w, D, Mc) ∧ jR_boundTo_5 (nI e) y (nI (v - r)) [] Mm = some (nI w, [], Mm) := by
  obtain ⟨⟨s5, s1, s2⟩, -, -, -, hF, -⟩ := hS
  have ke : ∀ {ρ : Type} {q : Option ρ}, sm_ck (nI e) 40 q = q := ck_nI he (by decide)
  have ce : (nI e).toNatClampNeg = e := nI_clamp (by omega)
  have par : ∀ v : Nat, v ≤ 20 → (nI v - nI v / (2 : Int32) * (2 : Int32) = 0 ↔ v % 2 = 0) := by decide
  intro r
  induction r using Nat.strongRecOn with
  | ind r ih =>
    intro x y env hr hpar hE hget
    rcases hE with ⟨rfl, rfl, rfl⟩ | ⟨f, hf, rfl, rfl, rfl⟩
    · simp at hget
    · obtain ⟨a, b, env', ha, hb, c22, c23, m27, m27', m28', hE', hTF⟩ := hF f hf
      rw [hTF] at hget
      have kf : ∀ {ρ : Type} {q : Option ρ}, sm_ck (nI f) 166 q = q := ck_nI (by omega) (by decide)
      have cf : (nI f).toNatClampNeg = f := nI_clamp (by omega)
      have ka : ∀ {ρ : Type} {q : Option ρ}, sm_ck (nI a) 500 q = q := ck_nI (by omega) (by decide)
      have ca : (nI a).toNatClampNeg = a := nI_clamp (by omega)
      have k1 : ∀ {ρ : Type} {q : Option ρ}, sm_ck (nI (2 * f + 1)) 1200 q = q := ck_nI (by omega) (by decide)
      have c1 : (nI (2 * f + 1)).toNatClampNeg = 2 * f + 1 := nI_clamp (by omega)
      have k0 : ∀ {ρ : Type} {q : Option ρ}, sm_ck (nI (2 * f)) 1200 q = q := ck_nI (by omega) (by decide)
      have c0 : (nI (2 * f)).toNatClampNeg = 2 * f := nI_clamp (by omega)
      have fm : ¬ nI f = -1 := nI_m1 (by omega)
      have rstep : 1 ≤ r → jR_boundTo_5 (nI e) (nI (2 * f + 1)) (nI (v - r)) [] Mm = jR_boundTo_5 (nI e) (nI (2 * f)) (nI (v - r + 1)) [] Mm := by
        intro h1
        unfold jR_boundTo_5
        refine sm_lp_eq ?_
        show jR_boundTo_5_c (nI e) (nI (2 * f + 1)) (nI (v - r)) [] Mm = _
        unfold jR_boundTo_5_c
        rw [ke, ce, h13, if_pos (nI_lt (by omega) (by omega)), k1, c1, m28', dq_self, nI_1]
      by_cases r2 : 2 ≤ r
      · obtain ⟨r', rfl⟩ : ∃ r', r = r' + 2 := ⟨r - 2, by omega⟩
        obtain ⟨w, w1, w2, w3, w4⟩ := ih r' (by omega) (Mc 21 a) (Mm 28 (2 * f)) env' (by omega) (by omega) (hE'.mono (by omega) (fun _ _ => rfl)) hget
        have em : nI (r' + 2) - (2 : Int32) = nI r' := nI_sub r' 2
        have em2 : nI (r' + 2) + (-2 : Int32) = nI r' := by rw [← em, Int32.sub_eq_add_neg]
        refine ⟨w, w1, w2, ?_, ?_⟩
        · rw [← w3]
          unfold jV_ofVariable_5
          refine sm_lp_eq ?_
          show jV_ofVariable_5_c (nI v) (nI f) (nI (r' + 2)) D Mc = _
          unfold jV_ofVariable_5_c
          rw [if_pos (show (1 : Int32) < nI (r' + 2) from nI_lt (a := 1) (by omega) (by omega)), if_neg fm, kf, cf, c22, ka, ca, dq_self, em2]
        · rw [rstep (by omega)]
          have e1 : v - r' = v - (r' + 2) + 1 + 1 := by omega
          rw [← w4, e1]
          unfold jR_boundTo_5
          refine sm_lp_eq ?_
          show jR_boundTo_5_c (nI e) (nI (2 * f)) (nI (v - (r' + 2) + 1)) [] Mm = _
          unfold jR_boundTo_5_c
          rw [ke, ce, h13, if_pos (nI_lt (by omega) (by omega)), k0, c0, dq_self, nI_1]
      · have hn1 : ¬ (1 : Int32) < nI r := nI_nlt (a := 1) (by omega) (by decide)
        by_cases r0 : r = 0
        · subst r0
          have et : TV b = t := Option.some.inj hget
          refine ⟨b, hb, et, ?_, ?_⟩
          · unfold jV_ofVariable_5
            refine sm_lp_end ?_
            show jV_ofVariable_5_c (nI v) (nI f) (nI 0) D Mc = _
            unfold jV_ofVariable_5_c jV_ofVariable_34 jV_ofVariable_62
            rw [if_neg hn1, if_neg fm]
            unfold sm_nz
            rw [if_neg (by decide), if_pos ((par v hv).mpr (by omega)), kf, cf, c23]
            rfl
          · unfold jR_boundTo_5
            refine sm_lp_end ?_
            show jR_boundTo_5_c (nI e) (nI (2 * f + 1)) (nI (v - 0)) [] Mm = _
            unfold jR_boundTo_5_c
            rw [ke, ce, h13, if_neg (nI_nlt (by omega) (by omega)), k1, c1, m27']
        · have r1 : r = 1 := by omega
          subst r1
          have et : TV a = t := Option.some.inj hget
          refine ⟨a, ha, et, ?_, ?_⟩
          · unfold jV_ofVariable_5
            refine sm_lp_end ?_
            show jV_ofVariable_5_c (nI v) (nI f) (nI 1) D Mc = _
            unfold jV_ofVariable_5_c jV_ofVariable_34 jV_ofVariable_62
            rw [if_neg hn1, if_neg fm]
            unfold sm_nz
            rw [if_neg (by decide), if_neg (fun q => by have := (par v hv).mp q; omega), kf, cf, c22]
            rfl
          · rw [rstep (by omega)]
            unfold jR_boundTo_5
            refine sm_lp_end ?_
            show jR_boundTo_5_c (nI e) (nI (2 * f)) (nI (v - 1 + 1)) [] Mm = _
            unfold jR_boundTo_5_c
            rw [ke, ce, h13, if_neg (nI_nlt (by omega) (by omega)), k0, c0, m27]
end
