/-! how the combinators compute -/
section
variable {ρ : Type} {k : Option ρ} {D : sm_D} {M : sm_M}
theorem ck_nI {j n : Nat} (h : j < n) (hn : n < 2 ^ 31) : sm_ck (nI j) n k = k := by
  unfold sm_ck
  rw [if_pos]
  rw [nI_toInt (by omega)]
  omega
theorem ck_of {i : Int32} {n : Nat} (h : 0 ≤ i.toInt ∧ i.toInt < (n : Int)) : sm_ck i n k = k := by unfold sm_ck; rw [if_pos h]
theorem dq_self : sm_dq D D k = k := by unfold sm_dq; rw [if_pos rfl]
theorem eqp_self {p : Nat} : sm_eqp p p k = k := by unfold sm_eqp; rw [if_pos rfl]
theorem bo_0 : sm_bo 0 k = k := by unfold sm_bo; rw [if_pos (Or.inl rfl)]
theorem bo_1 : sm_bo 1 k = k := by unfold sm_bo; rw [if_pos (Or.inr rfl)]
theorem bi_some {x : Int32} {f : Int32 → sm_D → sm_M → Option ρ} : sm_bi (some (x, D, M)) f = f x D M := rfl
theorem ga_in {a : List Nat} {l : List (List Nat)} (h : a ∈ l) : sm_ga a l k = k := by unfold sm_ga; rw [if_pos h]
theorem up_ne {p q j : Nat} {v : Int32} (h : q ≠ p) : sm_up M p j v q = M q := by unfold sm_up; rw [if_neg h]
theorem up_at {p j : Nat} {v : Int32} : sm_up M p j v p j = v := by unfold sm_up upd; rw [if_pos rfl, if_pos rfl]
theorem up_as {p i j : Nat} {v : Int32} (h : i ≠ j) : sm_up M p j v p i = M p i := by unfold sm_up upd; rw [if_pos rfl, if_neg h]
theorem inr_some {σ : Type} {r : ρ} : (sm_inr (some r) : Option (σ ⊕ ρ)) = some (.inr r) := rfl
end
theorem nI_m1 {n : Nat} (h : n < 2 ^ 31) : ¬ nI n = -1 := by
  intro q
  have a := congrArg Int32.toInt q
  rw [nI_toInt h] at a
  have b : (-1 : Int32).toInt = -1 := by decide
  rw [b] at a
  omega
theorem m1_lt : (-1 : Int32) < 0 := by decide
theorem nI_inj {a b : Nat} (ha : a < 2 ^ 31) (hb : b < 2 ^ 31) (h : nI a = nI b) : a = b := (nI_eq ha hb).mp h
/-! types as trees -/
abbrev Ty : Type := Lean.Data.AC.Expr
def ty_o (o : Option Ty) : Ty := match o with
  | none => .var 0
  | some t => .op (.var 0) t
/-- a type of kind k with its parts -/
def ty_mk (k : Nat) (a b c : Option Ty) : Ty := .op (.var (k + 1)) (.op (ty_o a) (.op (ty_o b) (ty_o c)))
/-- a hidden type -/
def ty_hid (n : Nat) : Ty := .op (.var 6) (.var n)
theorem ty_o_inj {a b : Option Ty} (h : ty_o a = ty_o b) : a = b := by
  cases a <;> cases b <;> simp [ty_o] at h ⊢
  exact h
theorem ty_mk_inj {k k' : Nat} {a b c a' b' c' : Option Ty} (h : ty_mk k a b c = ty_mk k' a' b' c') : k = k' ∧ a = a' ∧ b = b' ∧ c = c' := by
  unfold ty_mk at h
  injection h with h1 h2
  injection h1 with h1
  injection h2 with h2 h3
  injection h3 with h3 h4
  exact ⟨by omega, ty_o_inj h2, ty_o_inj h3, ty_o_inj h4⟩
theorem ty_mk_hid {k n : Nat} {a b c : Option Ty} : ty_mk k a b c ≠ ty_hid n := by
  intro h
  unfold ty_mk ty_hid at h
  injection h with h1 h2
  cases h2
def ty_sz : Ty → Nat
  | .var _ => 0
  | .op (.var 0) r => ty_sz r
  | .op (.var (_ + 1)) r => 1 + ty_sz r
  | .op (.op a b) r => ty_sz (.op a b) + ty_sz r
def ty_so (o : Option Ty) : Nat := match o with
  | none => 0
  | some t => ty_sz t
theorem ty_sz_o (o : Option Ty) : ty_sz (ty_o o) = ty_so o := by cases o <;> rfl
theorem ty_sz_opo (o : Option Ty) (r : Ty) : ty_sz (.op (ty_o o) r) = ty_so o + ty_sz r := by
  cases o with
  | none => show ty_sz (.op (.var 0) r) = _; simp [ty_sz, ty_so]
  | some t => show ty_sz (.op (.op (.var 0) t) r) = _; simp [ty_sz, ty_so]
theorem ty_sz_mk (k : Nat) (a b c : Option Ty) : ty_sz (ty_mk k a b c) = 1 + ty_so a + ty_so b + ty_so c := by
  unfold ty_mk
  show 1 + ty_sz (.op (ty_o a) (.op (ty_o b) (ty_o c))) = _
  rw [ty_sz_opo, ty_sz_opo, ty_sz_o]
  omega
theorem ty_sz_hid (n : Nat) : ty_sz (ty_hid n) = 1 := rfl
/-- the number x names this type (or none) in the table L -/
def ty_pr (L : List Ty) (x : Int32) (o : Option Ty) : Prop := (o = none ∧ x = -1) ∨ ∃ (i : Nat) (t : Ty), o = some t ∧ L[i]? = some t ∧ x = nI i
theorem ty_pr.grow {L K : List Ty} {x : Int32} {o : Option Ty} (h : ty_pr L x o) : ty_pr (L ++ K) x o := by
  rcases h with h | ⟨i, t, h1, h2, h3⟩
  · exact Or.inl h
  · exact Or.inr ⟨i, t, h1, by rw [List.getElem?_append_left (List.getElem?_eq_some_iff.mp h2).1]; exact h2, h3⟩
theorem ty_pr.fn {L : List Ty} {x : Int32} {o o' : Option Ty} (hl : L.length < 2 ^ 31) (h : ty_pr L x o) (h' : ty_pr L x o') : o = o' := by
  rcases h with ⟨h1, h2⟩ | ⟨i, t, h1, h2, h3⟩ <;> rcases h' with ⟨k1, k2⟩ | ⟨j, u, k1, k2, k3⟩
  · rw [h1, k1]
  · have hj := (List.getElem?_eq_some_iff.mp k2).1
    exact absurd (k3.symm.trans h2) (nI_m1 (by omega))
  · have hi := (List.getElem?_eq_some_iff.mp h2).1
    exact absurd (h3.symm.trans k2) (nI_m1 (by omega))
  · have hi := (List.getElem?_eq_some_iff.mp h2).1
    have hj := (List.getElem?_eq_some_iff.mp k2).1
    have e := nI_inj (by omega) (by omega) (h3.symm.trans k3)
    subst e
    rw [h1, k1, Option.some.inj (h2.symm.trans k2)]
theorem ty_nodup_at {L : List Ty} (h : L.Nodup) {i j : Nat} {t : Ty} (hi : L[i]? = some t) (hj : L[j]? = some t) : i = j := by
  obtain ⟨a, ea⟩ := List.getElem?_eq_some_iff.mp hi
  obtain ⟨b, eb⟩ := List.getElem?_eq_some_iff.mp hj
  rcases Nat.lt_trichotomy i j with h1 | h1 | h1
  · exact absurd (ea.trans eb.symm) (List.pairwise_iff_getElem.mp h i j a b h1)
  · exact h1
  · exact absurd (eb.trans ea.symm) (List.pairwise_iff_getElem.mp h j i b a h1)
theorem ty_pr.inj {L : List Ty} (hn : L.Nodup) {x y : Int32} {o : Option Ty} (h : ty_pr L x o) (h' : ty_pr L y o) : x = y := by
  rcases h with ⟨h1, h2⟩ | ⟨i, t, h1, h2, h3⟩ <;> rcases h' with ⟨k1, k2⟩ | ⟨j, u, k1, k2, k3⟩
  · rw [h2, k2]
  · rw [h1] at k1; cases k1
  · rw [h1] at k1; cases k1
  · rw [h1] at k1
    cases k1
    rw [h3, k3, ty_nodup_at hn h2 k2]
