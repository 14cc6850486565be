/-! add: what is written -/
section
variable {pV : pVt} {nB nC p d1 d3 d4 n cur o : Nat} {L LM : List Ty} {W : Nat → Ty} {A : Nat → Option Ty} {Mc Mm N : sm_M} {D : sm_D} {k a b c x v s : Int32}
theorem zf_if {f : Nat} {X : Int32 → Option sm_S} (hf : f ≤ 5) : (if nI f = (0 : Int32) then X 0 else X x) = X (zf f x) := by
  unfold zf
  by_cases h : f = 0
  · subst h; rw [if_pos (show nI 0 = 0 from nI_0), if_pos rfl]
  · rw [if_neg (nI_ne0 (by omega) (by omega)), if_neg h]
theorem p_151 (hn : n < 300) (hcur : cur < 40) (h6 : Mc p 6 = nI n) (h12 : Mc p 12 = nI cur) : jC_put_151 p (nI n) s D Mc = some (0, D, sm_up (sm_up (sm_up Mc (p + 5) n s) p 6 (nI (n + 1))) (p + 7) cur (Mc (p + 7) cur + 1)) := by
  have kc : ∀ {ρ : Type} {q : Option ρ}, sm_ck (nI cur) 40 q = q := ck_nI hcur (by decide)
  have cc : (nI cur).toNatClampNeg = cur := nI_clamp (by omega)
  simp only [jC_put_151, sm_wr]
  rw [ck_nI hn (by decide), nI_clamp (by omega), up_ne (show p ≠ p + 5 by omega), h6, nI_1, up_as (show (12 : Nat) ≠ 6 by decide), up_ne (show p ≠ p + 5 by omega), h12, kc, kc, cc, up_ne (show p + 7 ≠ p by omega), up_ne (show p + 7 ≠ p + 5 by omega)]
theorem p_115 (hp : 40 ≤ p) (ho : o ≤ 12) (hn : n < 300) (hcur : cur < 40) (h6 : Mc p 6 = nI n) (h12 : Mc p 12 = nI cur) (hT : tabC Mc L) {w : Ty} (hw : o = 7 → ty_pr L c (some w)) : jC_put_115 p (nI o) c (nI n) v D Mc = some (0, D, sm_up (sm_up (sm_up (sm_up Mc (p + 4) n v) (p + 5) n (if o = 7 then nI (ty_sz w) else v)) p 6 (nI (n + 1))) (p + 7) cur (Mc (p + 7) cur + 1)) := by
  have g6 : sm_up Mc (p + 4) n v p 6 = nI n := by rw [up_ne (by omega)]; exact h6
  have g12 : sm_up Mc (p + 4) n v p 12 = nI cur := by rw [up_ne (by omega)]; exact h12
  have g7 : sm_up Mc (p + 4) n v (p + 7) = Mc (p + 7) := up_ne (by omega)
  simp only [jC_put_115, sm_wr]
  rw [ck_nI hn (by decide), nI_clamp (by omega)]
  by_cases h7 : o = 7
  · subst h7
    have hT' : tabC (sm_up Mc (p + 4) n v) L := tabC_o (fun q hq => up_ne (by omega)) hT
    rw [if_pos (show nI 7 = 7 from rfl), if_pos rfl, j_sizeOf hT' (hw rfl), bi_some, dq_self, eqp_self, eqp_self, g6, p_151 hn hcur g6 g12, g7]
    rfl
  · have n7 : ¬ nI o = 7 := fun q => h7 (nI_inj (by omega) (by decide) (show nI o = nI 7 from q))
    rw [if_neg n7, if_neg h7, g6, ck_nI hn (by decide), eqp_self, eqp_self, nI_clamp (by omega), up_at, p_151 hn hcur g6 g12, g7]
def piC (M : sm_M) (p n cur : Nat) (o a b c s : Int32) : sm_M := sm_up (sm_up (sm_up (sm_up (sm_up (sm_up (sm_up M (p + 1) n o) (p + 2) n a) (p + 3) n b) (p + 4) n c) (p + 5) n s) p 6 (nI (n + 1))) (p + 7) cur (M (p + 7) cur + 1)
theorem c_put (hg : [p] ∈ gC) (hp : 40 ≤ p) (ho : o ≤ 12) (hn : n < 300) (hcur : cur < nB) (hB40 : nB ≤ 40) (h6 : Mc p 6 = nI n) (h11 : Mc p 11 = nI nB) (h12 : Mc p 12 = nI cur) (hT : tabC Mc L) {w : Ty} (hw : o = 7 → ty_pr L c (some w)) : jC_put p (nI o) a b c D Mc = some (0, D, piC Mc p n cur (nI o) (zf (fm o 0) a) (zf (fm o 1) b) (zf (fm o 2) c) (if o = 7 then nI (ty_sz w) else zf (fm o 2) c)) := by
  have ne : ¬ nI n = (300 : Int32) := fun q => by
    have := nI_inj (by omega) (by decide) (show nI n = nI 300 from q)
    omega
  have hh : jC_hasBlock p (nI cur) D Mc = some (1, D, Mc) := by
    rcases c_hasB (D := D) hB40 h11 (nI cur) with ⟨_, -, -, q⟩ | ⟨q, -⟩
    · exact q
    · exact absurd ⟨nI_pos (by omega), nI_lt hcur (by omega)⟩ q
  have kn : ∀ {ρ : Type} {q : Option ρ}, sm_ck (nI n) 300 q = q := ck_nI hn (by decide)
  have cn : (nI n).toNatClampNeg = n := nI_clamp (by omega)
  have e1 : nI (3 * o) + 1 = nI (3 * o + 1) := nI_1 _
  have e2 : nI (3 * o) + 2 = nI (3 * o + 2) := nI_add (3 * o) 2
  have k0 : ∀ {ρ : Type} {q : Option ρ}, sm_ck (nI (3 * o)) 39 q = q := ck_nI (by omega) (by decide)
  have k1 : ∀ {ρ : Type} {q : Option ρ}, sm_ck (nI (3 * o + 1)) 39 q = q := ck_nI (by omega) (by decide)
  have k2 : ∀ {ρ : Type} {q : Option ρ}, sm_ck (nI (3 * o + 2)) 39 q = q := ck_nI (by omega) (by decide)
  have q0 : (nI (3 * o)).toNatClampNeg = 3 * o := nI_clamp (by omega)
  have q1 : (nI (3 * o + 1)).toNatClampNeg = 3 * o + 1 := nI_clamp (by omega)
  have q2 : (nI (3 * o + 2)).toNatClampNeg = 3 * o + 2 := nI_clamp (by omega)
  have t0 : sm_tab tFORM (3 * o) = nI (fm o 0) := rfl
  have t1 : sm_tab tFORM (3 * o + 1) = nI (fm o 1) := rfl
  have t2 : sm_tab tFORM (3 * o + 2) = nI (fm o 2) := rfl
  have g1 : ∀ j, sm_up Mc (p + 1) n (nI o) p j = Mc p j := fun j => by rw [up_ne (by omega)]
  have g2 : ∀ (y : Int32) j, sm_up (sm_up Mc (p + 1) n (nI o)) (p + 2) n y p j = Mc p j := fun y j => by rw [up_ne (by omega), up_ne (by omega)]
  have g3 : ∀ (y z : Int32) j, sm_up (sm_up (sm_up Mc (p + 1) n (nI o)) (p + 2) n y) (p + 3) n z p j = Mc p j := fun y z j => by rw [up_ne (by omega), up_ne (by omega), up_ne (by omega)]
  unfold jC_put
  rw [h6, if_neg ne, h12, ga_in hg, hh, bi_some, dq_self, if_neg (by decide), h6, kn, cn]
  simp only [sm_wr, nI_3, k0, q0, t0, eqp_self, g1, h6]
  rw [zf_if (X := fun y => jC_put_64 p (nI o) b c (nI (3 * o)) (nI n) y D (sm_up Mc (p + 1) n (nI o))) (fm_5 ho (by decide))]
  simp only [jC_put_64, sm_wr, kn, cn, e1, k1, q1, t1, eqp_self, g2, h6]
  rw [zf_if (X := fun y => jC_put_89 p (nI o) c (nI (3 * o)) (nI n) y D (sm_up (sm_up Mc (p + 1) n (nI o)) (p + 2) n (zf (fm o 0) a))) (fm_5 ho (by decide))]
  simp only [jC_put_89, sm_wr, kn, cn, e2, k2, q2, t2, eqp_self, g3, h6]
  rw [zf_if (X := fun y => jC_put_115 p (nI o) c (nI n) y D (sm_up (sm_up (sm_up Mc (p + 1) n (nI o)) (p + 2) n (zf (fm o 0) a)) (p + 3) n (zf (fm o 1) b))) (fm_5 ho (by decide))]
  have hT3 : tabC (sm_up (sm_up (sm_up Mc (p + 1) n (nI o)) (p + 2) n (zf (fm o 0) a)) (p + 3) n (zf (fm o 1) b)) L := tabC_o (fun q hq => by rw [up_ne (by omega), up_ne (by omega), up_ne (by omega)]) hT
  rw [p_115 hp ho hn (by omega) ((g3 _ _ 6).trans h6) ((g3 _ _ 12).trans h12) hT3 hw, up_ne (show p + 7 ≠ p + 3 by omega), up_ne (show p + 7 ≠ p + 2 by omega), up_ne (show p + 7 ≠ p + 1 by omega)]
  rfl
theorem piC_o {q : Nat} (h0 : q ≠ p) (h : q < p + 1 ∨ p + 7 < q ∨ q = p + 6) : piC Mc p n cur k a b c s q = Mc q := by
  unfold piC
  rw [up_ne (by omega), up_ne (by omega), up_ne (by omega), up_ne (by omega), up_ne (by omega), up_ne (by omega), up_ne (by omega)]
theorem piC_p {j : Nat} (hj : j ≠ 6) : piC Mc p n cur k a b c s p j = Mc p j := by
  unfold piC
  rw [up_ne (by omega), up_as hj, up_ne (by omega), up_ne (by omega), up_ne (by omega), up_ne (by omega), up_ne (by omega)]
theorem piC_6 : piC Mc p n cur k a b c s p 6 = nI (n + 1) := by unfold piC; rw [up_ne (by omega), up_at]
theorem piC_1 : piC Mc p n cur k a b c s (p + 1) = upd (Mc (p + 1)) n k := by
  unfold piC
  rw [up_ne (by omega), up_ne (by omega), up_ne (by omega), up_ne (by omega), up_ne (by omega), up_ne (by omega), sm_up_same]
theorem piC_2 : piC Mc p n cur k a b c s (p + 2) = upd (Mc (p + 2)) n a := by
  unfold piC
  rw [up_ne (by omega), up_ne (by omega), up_ne (by omega), up_ne (by omega), up_ne (by omega), sm_up_same, up_ne (by omega)]
theorem piC_3 : piC Mc p n cur k a b c s (p + 3) = upd (Mc (p + 3)) n b := by
  unfold piC
  rw [up_ne (by omega), up_ne (by omega), up_ne (by omega), up_ne (by omega), sm_up_same, up_ne (by omega), up_ne (by omega)]
theorem piC_4 : piC Mc p n cur k a b c s (p + 4) = upd (Mc (p + 4)) n c := by
  unfold piC
  rw [up_ne (by omega), up_ne (by omega), up_ne (by omega), sm_up_same, up_ne (by omega), up_ne (by omega), up_ne (by omega)]
theorem piC_5 : piC Mc p n cur k a b c s (p + 5) = upd (Mc (p + 5)) n s := by
  unfold piC
  rw [up_ne (by omega), up_ne (by omega), sm_up_same, up_ne (by omega), up_ne (by omega), up_ne (by omega), up_ne (by omega)]
theorem piC_7 : piC Mc p n cur k a b c s (p + 7) = upd (Mc (p + 7)) cur (Mc (p + 7) cur + 1) := by
  unfold piC
  rw [sm_up_same, up_ne (by omega), up_ne (by omega), up_ne (by omega), up_ne (by omega), up_ne (by omega), up_ne (by omega)]
def emM (M : sm_M) (n cur : Nat) (o a b c : Int32) : sm_M := sm_up (sm_up (sm_up (sm_up (sm_up (sm_up (sm_up M 1 47 0) 29 n o) 30 n a) 31 n b) 32 n c) 34 cur (M 34 cur + 1)) 1 39 (nI (n + 1))
theorem r_emit (hn : n < 300) (hcur : cur < 41) (h47 : N 1 47 = 0) (h39 : N 1 39 = nI n) (h54 : N 1 54 = nI cur) : jR_emit k a b c D N = some (0, D, emM N n cur k a b c) := by
  have ne : ¬ nI n = (300 : Int32) := fun q => by
    have := nI_inj (by omega) (by decide) (show nI n = nI 300 from q)
    omega
  have kn : ∀ {ρ : Type} {q : Option ρ}, sm_ck (nI n) 301 q = q := ck_nI (by omega) (by decide)
  have cn : (nI n).toNatClampNeg = n := nI_clamp (by omega)
  have kc : ∀ {ρ : Type} {q : Option ρ}, sm_ck (nI cur) 41 q = q := ck_nI hcur (by decide)
  have cc : (nI cur).toNatClampNeg = cur := nI_clamp (by omega)
  have u1 : ∀ {M : sm_M} {q j : Nat} {x : Int32}, 1 ≠ q → sm_up M q j x 1 = M 1 := fun h => up_ne h
  unfold jR_emit
  rw [if_pos h47, h39, if_neg ne]
  simp only [jR_emit_23, sm_wr, bo_0]
  rw [up_at, if_pos rfl]
  simp only [u1 (show (1 : Nat) ≠ 29 by decide), u1 (show (1 : Nat) ≠ 30 by decide), u1 (show (1 : Nat) ≠ 31 by decide), u1 (show (1 : Nat) ≠ 32 by decide), u1 (show (1 : Nat) ≠ 34 by decide), up_as (show (39 : Nat) ≠ 47 by decide), up_as (show (54 : Nat) ≠ 47 by decide), h39, h54, kn, cn, kc, cc, nI_1]
  rw [up_ne (show (34 : Nat) ≠ 32 by decide), up_ne (show (34 : Nat) ≠ 31 by decide), up_ne (show (34 : Nat) ≠ 30 by decide), up_ne (show (34 : Nat) ≠ 29 by decide), up_ne (show (34 : Nat) ≠ 1 by decide)]
  rfl
theorem emM_o {q : Nat} (h1 : q ≠ 1) (h : q < 29 ∨ 34 < q ∨ q = 33) : emM N n cur k a b c q = N q := by
  unfold emM
  rw [up_ne (by omega), up_ne (by omega), up_ne (by omega), up_ne (by omega), up_ne (by omega), up_ne (by omega), up_ne (by omega)]
theorem emM_1 {j : Nat} (h1 : j ≠ 39) (h2 : j ≠ 47) : emM N n cur k a b c 1 j = N 1 j := by
  unfold emM
  rw [up_as h1, up_ne (by decide), up_ne (by decide), up_ne (by decide), up_ne (by decide), up_ne (by decide), up_as h2]
theorem emM_39 : emM N n cur k a b c 1 39 = nI (n + 1) := up_at
theorem emM_29 : emM N n cur k a b c 29 = upd (N 29) n k := by
  unfold emM
  rw [up_ne (by decide), up_ne (by decide), up_ne (by decide), up_ne (by decide), up_ne (by decide), sm_up_same, up_ne (by decide)]
theorem emM_30 : emM N n cur k a b c 30 = upd (N 30) n a := by
  unfold emM
  rw [up_ne (by decide), up_ne (by decide), up_ne (by decide), up_ne (by decide), sm_up_same, up_ne (by decide), up_ne (by decide)]
theorem emM_31 : emM N n cur k a b c 31 = upd (N 31) n b := by
  unfold emM
  rw [up_ne (by decide), up_ne (by decide), up_ne (by decide), sm_up_same, up_ne (by decide), up_ne (by decide), up_ne (by decide)]
theorem emM_32 : emM N n cur k a b c 32 = upd (N 32) n c := by
  unfold emM
  rw [up_ne (by decide), up_ne (by decide), sm_up_same, up_ne (by decide), up_ne (by decide), up_ne (by decide), up_ne (by decide)]
theorem emM_34 : emM N n cur k a b c 34 = upd (N 34) cur (N 34 cur + 1) := by
  unfold emM
  rw [up_ne (by decide), sm_up_same, up_ne (by decide), up_ne (by decide), up_ne (by decide), up_ne (by decide), up_ne (by decide)]
end
