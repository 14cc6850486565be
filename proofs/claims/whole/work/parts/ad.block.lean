/-! block -/
section
variable {pV : pVt} {nB nC p d1 d3 d4 n : Nat} {L LM : List Ty} {W : Nat → Ty} {A : Nat → Option Ty} {Mc Mm N : sm_M} {D : sm_D} {k a b c x : Int32} {oa ob oc o : Option Ty}
def akC (M : sm_M) (p i : Nat) (x : Int32) (o : Option Ty) : sm_M := sm_up (sm_up M (p + 8) i x) (p + 9) i (nI (ty_so o))
theorem akC_o {i q : Nat} (h1 : q ≠ p + 8) (h2 : q ≠ p + 9) : akC Mc p i x o q = Mc q := by unfold akC; rw [up_ne h2, up_ne h1]
theorem akC_8 {i : Nat} : akC Mc p i x o (p + 8) = upd (Mc (p + 8)) i x := by unfold akC; rw [up_ne (by omega), sm_up_same]
theorem akC_9 {i : Nat} : akC Mc p i x o (p + 9) = upd (Mc (p + 9)) i (nI (ty_so o)) := by unfold akC; rw [sm_up_same, up_ne (by omega)]
theorem akC_T {i : Nat} (hp : 40 ≤ p) (h : tabC Mc L) : tabC (akC Mc p i x o) L := tabC_o (fun q hq => akC_o (by omega) (by omega)) h
theorem k_ask {i : Nat} (hp : 40 ≤ p) (hi : i < 120) (hT : tabC Mc L) (hx : ty_pr L x o) : jC_ask p (nI i) x D Mc = some (0, D, akC Mc p i x o) := by
  have hck : ∀ {ρ : Type} {q : Option ρ}, sm_ck (nI i) 120 q = q := ck_nI hi (by decide)
  have hcl : (nI i).toNatClampNeg = i := nI_clamp (by omega)
  have hT' : tabC (sm_up Mc (p + 8) i x) L := tabC_o (fun q hq => up_ne (by omega)) hT
  simp only [jC_ask, sm_wr]
  rw [hck, hcl, j_sizeOf hT' hx, bi_some, dq_self, hck]
  rfl
def opC (M : sm_M) (p b : Nat) (c : Int32) (x y z : Int32) (o1 o2 o3 : Option Ty) : sm_M := akC (akC (akC (sm_up (sm_up M p 12 (nI b)) (p + 6) b c) p (3 * b) x o1) p (3 * b + 1) y o2) p (3 * b + 2) z o3
theorem k_open (hg : [p] ∈ gC) (hp : 40 ≤ p) {m : Nat} (hn : n < m) (hm : m ≤ 40) (hB : Mc p 11 = nI m) (hT : tabC Mc L) (ha : ty_pr L a oa) (hb : ty_pr L b ob) (hc : ty_pr L c oc) : jC_open p (nI n) a b c D Mc = some (0, D, opC Mc p n (Mc p 6) a b c oa ob oc) := by
  have hh : jC_hasBlock p (nI n) D Mc = some (1, D, Mc) := by
    rcases c_hasB (D := D) hm hB (nI n) with ⟨_, -, -, q⟩ | ⟨q, -⟩
    · exact q
    · exact absurd ⟨nI_pos (by omega), nI_lt hn (by omega)⟩ q
  have h0 : tabC (sm_up (sm_up Mc p 12 (nI n)) (p + 6) n (Mc p 6)) L := tabC_o (fun q hq => by rw [up_ne (by omega), up_ne (by omega)]) hT
  unfold jC_open
  rw [ga_in hg, hh, bi_some, dq_self, if_neg (by decide)]
  simp only [sm_wr]
  have e1 : (3 : Int32) * nI n + 1 = nI (3 * n + 1) := by rw [nI_3, nI_1]
  have e2 : (3 : Int32) * nI n + 2 = nI (3 * n + 2) := by rw [nI_3]; exact nI_add (3 * n) 2
  rw [ck_nI (by omega) (by decide), nI_clamp (by omega), up_as (show (6 : Nat) ≠ 12 by decide), e1, e2, nI_3, ga_in hg, k_ask hp (by omega) h0 ha, bi_some, dq_self, ga_in hg, k_ask hp (by omega) (akC_T hp h0) hb, bi_some, dq_self, ga_in hg, k_ask hp (by omega) (akC_T hp (akC_T hp h0)) hc, bi_some, dq_self]
  rfl
theorem opC_o {y z w : Int32} {q : Nat} (h0 : q ≠ p) (h6 : q ≠ p + 6) (h8 : q ≠ p + 8) (h9 : q ≠ p + 9) : opC Mc p n x y z w oa ob oc q = Mc q := by
  unfold opC
  rw [akC_o h8 h9, akC_o h8 h9, akC_o h8 h9, up_ne h6, up_ne h0]
theorem opC_p {y z w : Int32} {j : Nat} (hj : j ≠ 12) : opC Mc p n x y z w oa ob oc p j = Mc p j := by
  unfold opC
  rw [akC_o (by omega) (by omega), akC_o (by omega) (by omega), akC_o (by omega) (by omega), up_ne (by omega), up_as hj]
theorem opC_12 {y z w : Int32} : opC Mc p n x y z w oa ob oc p 12 = nI n := by
  unfold opC
  rw [akC_o (by omega) (by omega), akC_o (by omega) (by omega), akC_o (by omega) (by omega), up_ne (by omega), up_at]
theorem opC_6 {y z w : Int32} : opC Mc p n x y z w oa ob oc (p + 6) = upd (Mc (p + 6)) n x := by
  unfold opC
  rw [akC_o (by omega) (by omega), akC_o (by omega) (by omega), akC_o (by omega) (by omega), sm_up_same, up_ne (by omega)]
theorem opC_8 {y z w : Int32} : opC Mc p n x y z w oa ob oc (p + 8) = upd (upd (upd (Mc (p + 8)) (3 * n) y) (3 * n + 1) z) (3 * n + 2) w := by
  unfold opC
  rw [akC_8, akC_8, akC_8, up_ne (by omega), up_ne (by omega)]
theorem opC_9 {y z w : Int32} : opC Mc p n x y z w oa ob oc (p + 9) = upd (upd (upd (Mc (p + 9)) (3 * n) (nI (ty_so oa))) (3 * n + 1) (nI (ty_so ob))) (3 * n + 2) (nI (ty_so oc)) := by
  unfold opC
  rw [akC_9, akC_9, akC_9, up_ne (by omega), up_ne (by omega)]
def obM (M : sm_M) (b : Nat) (x y z : Int32) : sm_M := sm_up (sm_up (sm_up (sm_up (sm_up (sm_up M 1 54 (nI b)) 33 b (M 1 39)) 34 b 0) 35 (3 * b) x) 35 (3 * b + 1) y) 35 (3 * b + 2) z
theorem r_beginB {x y z : Int32} (hn : n ≤ 40) : jR_beginBlock (nI n) x y z D N = some (0, D, obM N n x y z) := by
  have e1 : (3 : Int32) * nI n + 1 = nI (3 * n + 1) := by rw [nI_3, nI_1]
  have e2 : (3 : Int32) * nI n + 2 = nI (3 * n + 2) := by rw [nI_3]; exact nI_add (3 * n) 2
  have e3 : (3 : Int32) * nI n = nI (3 * n) := nI_3 n
  have k1 : ∀ {ρ : Type} {q : Option ρ}, sm_ck (nI n) 41 q = q := ck_nI (by omega) (by decide)
  have k2 : ∀ {ρ : Type} {q : Option ρ}, sm_ck (nI (3 * n)) 123 q = q := ck_nI (by omega) (by decide)
  have k3 : ∀ {ρ : Type} {q : Option ρ}, sm_ck (nI (3 * n + 1)) 123 q = q := ck_nI (by omega) (by decide)
  have k4 : ∀ {ρ : Type} {q : Option ρ}, sm_ck (nI (3 * n + 2)) 123 q = q := ck_nI (by omega) (by decide)
  simp only [jR_beginBlock, sm_wr, e1, e2]
  rw [e3, k1, k1, k2, k3, k4, nI_clamp (by omega), nI_clamp (by omega), nI_clamp (by omega), nI_clamp (by omega), up_as (show (39 : Nat) ≠ 54 by decide)]
  rfl
theorem obM_o {x y z : Int32} {q : Nat} (h1 : q ≠ 1) (hq : q < 33 ∨ 35 < q) : obM N n x y z q = N q := by
  unfold obM
  rw [up_ne (by omega), up_ne (by omega), up_ne (by omega), up_ne (by omega), up_ne (by omega), up_ne (by omega)]
theorem obM_1 {x y z : Int32} {j : Nat} (hj : j ≠ 54) : obM N n x y z 1 j = N 1 j := by
  unfold obM
  rw [up_ne (by decide), up_ne (by decide), up_ne (by decide), up_ne (by decide), up_ne (by decide), up_as hj]
theorem obM_33 {x y z : Int32} : obM N n x y z 33 = upd (N 33) n (N 1 39) := by
  unfold obM
  rw [up_ne (by decide), up_ne (by decide), up_ne (by decide), up_ne (by decide), sm_up_same, up_ne (by decide)]
theorem obM_34 {x y z : Int32} : obM N n x y z 34 = upd (N 34) n 0 := by
  unfold obM
  rw [up_ne (by decide), up_ne (by decide), up_ne (by decide), sm_up_same, up_ne (by decide), up_ne (by decide)]
theorem obM_35 {x y z : Int32} : obM N n x y z 35 = upd (upd (upd (N 35) (3 * n) x) (3 * n + 1) y) (3 * n + 2) z := by
  unfold obM
  rw [sm_up_same, sm_up_same, sm_up_same, up_ne (by decide), up_ne (by decide), up_ne (by decide)]
/-- three places written -/
def u3 {α : Type} (f : Nat → α) (n : Nat) (x y z : α) (i : Nat) : α := if i = 3 * n then x else if i = 3 * n + 1 then y else if i = 3 * n + 2 then z else f i
theorem upd_3 {f : Nat → Int32} {x y z : Int32} {i : Nat} : upd (upd (upd f (3 * n) x) (3 * n + 1) y) (3 * n + 2) z i = u3 f n x y z i := by
  unfold u3
  by_cases h0 : i = 3 * n
  · rw [if_pos h0, upd_ne (by omega), upd_ne (by omega), h0, upd_at]
  · by_cases h1 : i = 3 * n + 1
    · rw [if_neg h0, if_pos h1, upd_ne (by omega), h1, upd_at]
    · by_cases h2 : i = 3 * n + 2
      · rw [if_neg h0, if_neg h1, if_pos h2, h2, upd_at]
      · rw [if_neg h0, if_neg h1, if_neg h2, upd_ne h2, upd_ne h1, upd_ne h0]
end
