/-! typing, purely -/
def xN (f : Nat → Int32) (e : Nat) : Nat := (f e).toNatClampNeg
/-- the expression e has the type t where env is bound (the innermost first) -/
def pT (K A X Y Z : Nat → Int32) (L : List Ty) : Nat → List Ty → Nat → Ty → Prop
  | 0, _, _, _ => False
  | n + 1, env, e, t =>
    (K e = 0 ∧ t = tyN) ∨ (K e = 1 ∧ env[xN A e]? = some t) ∨ ((K e = 2 ∨ K e = 3 ∨ K e = 4) ∧ t = tyN ∧ pT K A X Y Z L n env (xN X e) tyN ∧ pT K A X Y Z L n env (xN Y e) tyN) ∨
    (K e = 5 ∧ pT K A X Y Z L n env (xN X e) tyN ∧ pT K A X Y Z L n env (xN Y e) t ∧ pT K A X Y Z L n env (xN Z e) t) ∨
    (K e = 6 ∧ L[xN A e]? = some t ∧ ∃ a b, t = tyF a b ∧ pT K A X Y Z L n (a :: t :: env) (xN X e) b) ∨
    (K e = 7 ∧ ∃ a, pT K A X Y Z L n env (xN X e) (tyF a t) ∧ pT K A X Y Z L n env (xN Y e) a) ∨
    (K e = 8 ∧ ∃ a b, t = tyP a b ∧ pT K A X Y Z L n env (xN X e) a ∧ pT K A X Y Z L n env (xN Y e) b) ∨
    (K e = 9 ∧ ∃ b, pT K A X Y Z L n env (xN X e) (tyP t b)) ∨ (K e = 10 ∧ ∃ a, pT K A X Y Z L n env (xN X e) (tyP a t))
theorem tyF_inj {a b c d : Ty} (h : tyF a b = tyF c d) : a = c ∧ b = d := by
  obtain ⟨-, h1, h2, -⟩ := ty_mk_inj h
  exact ⟨Option.some.inj h1, Option.some.inj h2⟩
theorem tyP_inj {a b c d : Ty} (h : tyP a b = tyP c d) : a = c ∧ b = d := by
  obtain ⟨-, h1, h2, -⟩ := ty_mk_inj h
  exact ⟨Option.some.inj h1, Option.some.inj h2⟩
section
variable {K A X Y Z : Nat → Int32} {L : List Ty}
/-- by the kind alone -/
theorem pT_k {n : Nat} {env : List Ty} {e k : Nat} {t : Ty} (hk : K e = nI k) (h10 : k ≤ 10) : pT K A X Y Z L (n + 1) env e t ↔
    (k = 0 ∧ t = tyN) ∨ (k = 1 ∧ env[xN A e]? = some t) ∨ ((k = 2 ∨ k = 3 ∨ k = 4) ∧ t = tyN ∧ pT K A X Y Z L n env (xN X e) tyN ∧ pT K A X Y Z L n env (xN Y e) tyN) ∨
    (k = 5 ∧ pT K A X Y Z L n env (xN X e) tyN ∧ pT K A X Y Z L n env (xN Y e) t ∧ pT K A X Y Z L n env (xN Z e) t) ∨
    (k = 6 ∧ L[xN A e]? = some t ∧ ∃ a b, t = tyF a b ∧ pT K A X Y Z L n (a :: t :: env) (xN X e) b) ∨
    (k = 7 ∧ ∃ a, pT K A X Y Z L n env (xN X e) (tyF a t) ∧ pT K A X Y Z L n env (xN Y e) a) ∨
    (k = 8 ∧ ∃ a b, t = tyP a b ∧ pT K A X Y Z L n env (xN X e) a ∧ pT K A X Y Z L n env (xN Y e) b) ∨
    (k = 9 ∧ ∃ b, pT K A X Y Z L n env (xN X e) (tyP t b)) ∨ (k = 10 ∧ ∃ a, pT K A X Y Z L n env (xN X e) (tyP a t)) := by
  have q : ∀ m : Nat, m ≤ 10 → (K e = nI m ↔ k = m) := fun m hm => ⟨fun z => nI_inj (by omega) (by omega) (hk.symm.trans z), fun z => by rw [hk, z]⟩
  have q0 := q 0 (by decide)
  have q1 := q 1 (by decide)
  have q2 := q 2 (by decide)
  have q3 := q 3 (by decide)
  have q4 := q 4 (by decide)
  have q5 := q 5 (by decide)
  have q6 := q 6 (by decide)
  have q7 := q 7 (by decide)
  have q8 := q 8 (by decide)
  have q9 := q 9 (by decide)
  have q10 := q 10 (by decide)
  rw [← q0, ← q1, ← q2, ← q3, ← q4, ← q5, ← q6, ← q7, ← q8, ← q9, ← q10]
  exact Iff.rfl
theorem pT_fn : ∀ (n : Nat) (env : List Ty) (e : Nat) (t t' : Ty), pT K A X Y Z L n env e t → pT K A X Y Z L n env e t' → t = t'
  | 0, _, _, _, _, h, _ => h.elim
  | n + 1, env, e, t, t', h, h' => by
    have ih := pT_fn n
    unfold pT at h h'
    rcases h with ⟨k, h⟩ | ⟨k, h⟩ | ⟨k, h, -⟩ | ⟨k, -, h, -⟩ | ⟨k, h, -⟩ | ⟨k, a, h1, h2⟩ | ⟨k, a, b, h, h1, h2⟩ | ⟨k, b, h⟩ | ⟨k, a, h⟩ <;>
      rcases h' with ⟨k', h'⟩ | ⟨k', h'⟩ | ⟨k', h', -⟩ | ⟨k', -, h', -⟩ | ⟨k', h', -⟩ | ⟨k', a', h1', h2'⟩ | ⟨k', a', b', h', h1', h2'⟩ | ⟨k', b', h'⟩ | ⟨k', a', h'⟩ <;>
      first
      | (exfalso; rw [k] at k'; exact absurd k' (by decide))
      | (exfalso; rcases k with k | k | k <;> rw [k] at k' <;> exact absurd k' (by decide))
      | (exfalso; rcases k' with k' | k' | k' <;> rw [k] at k' <;> exact absurd k' (by decide))
      | (rw [h, h', ih _ _ _ _ h1 h1', ih _ _ _ _ h2 h2'])
      | (rw [h, h']; done)
      | (exact ih _ _ _ _ h h')
      | (exact Option.some.inj (h.symm.trans h'))
      | (exact (tyF_inj (ih _ _ _ _ h1 h1')).2)
      | (exact (tyP_inj (ih _ _ _ _ h h')).1)
      | (exact (tyP_inj (ih _ _ _ _ h h')).2)
end
/-- the number x names in L what P says, or nothing -/
def yR (P : Ty → Prop) (L : List Ty) (x : Int32) : Prop := ∃ o : Option Ty, (∀ t, o = some t ↔ P t) ∧ ty_pr L x o
section
variable {P Q : Ty → Prop} {L K : List Ty} {x y : Int32}
theorem yR.grow (h : yR P L x) : yR P (L ++ K) x := by
  obtain ⟨o, h1, h2⟩ := h
  exact ⟨o, h1, h2.grow⟩
theorem yR.m1 (h : yR P L x) (hl : L.length < 2 ^ 31) : x = -1 ↔ ∀ t, ¬ P t := by
  obtain ⟨o, h1, h2⟩ := h
  constructor
  · intro e t ht
    have := (h1 t).mpr ht
    rcases h2 with ⟨q, -⟩ | ⟨i, u, -, q2, q3⟩
    · rw [q] at this; cases this
    · have hi := (List.getElem?_eq_some_iff.mp q2).1
      exact nI_m1 (by omega) (q3.symm.trans e)
  · intro hn
    rcases h2 with ⟨-, q⟩ | ⟨i, u, q1, -, -⟩
    · exact q
    · exact absurd ((h1 u).mp q1) (hn u)
theorem yR.at (h : yR P L x) (hx : x ≠ -1) : ∃ (i : Nat) (t : Ty), L[i]? = some t ∧ x = nI i ∧ P t := by
  obtain ⟨o, h1, h2⟩ := h
  rcases h2 with ⟨-, q⟩ | ⟨i, t, q1, q2, q3⟩
  · exact absurd q hx
  · exact ⟨i, t, q2, q3, (h1 t).mp q1⟩
theorem yR.is (h : yR P L x) (hn : L.Nodup) (hl : L.length < 2 ^ 31) {i : Nat} {t : Ty} (hi : L[i]? = some t) : x = nI i ↔ P t := by
  obtain ⟨o, h1, h2⟩ := h
  constructor
  · intro e
    rw [e] at h2
    have := ty_pr.fn hl h2 (Or.inr ⟨i, t, rfl, hi, rfl⟩)
    exact (h1 t).mp this
  · intro hP
    have e := (h1 t).mpr hP
    rw [e] at h2
    exact ty_pr.inj hn h2 (Or.inr ⟨i, t, rfl, hi, rfl⟩)
theorem yR.of (hP : ∀ t u, P t → P u → t = u) {t : Ty} (ht : P t) (hx : ty_pr L x (some t)) : yR P L x := ⟨some t, fun u => ⟨fun e => by rw [← Option.some.inj e]; exact ht, fun q => by rw [hP t u ht q]⟩, hx⟩
theorem yR.no (hP : ∀ t, ¬ P t) : yR P L (-1) := ⟨Option.none, fun u => ⟨fun e => (by cases e), fun q => absurd q (hP u)⟩, Or.inl ⟨rfl, rfl⟩⟩
theorem yR.iff (h : yR P L x) (e : ∀ t, P t ↔ Q t) : yR Q L x := by
  obtain ⟨o, h1, h2⟩ := h
  exact ⟨o, fun t => (h1 t).trans (e t), h2⟩
end
/-- how many types a typing makes -/
def pw : Nat → Nat
  | 0 => 0
  | 1 => 0
  | n + 2 => 3 ^ n
theorem pw_3 (n : Nat) : 3 * pw n ≤ pw (n + 1) := by
  match n with
  | 0 => exact Nat.le_refl _
  | 1 => exact Nat.zero_le _
  | n + 2 => show 3 * 3 ^ n ≤ 3 ^ (n + 1); rw [Nat.pow_succ]; omega
theorem pw_2 {n : Nat} (h : 1 ≤ n) : 2 * pw n + 1 ≤ pw (n + 1) := by
  match n, h with
  | 1, _ => exact Nat.le_refl _
  | n + 2, _ =>
    show 2 * 3 ^ n + 1 ≤ 3 ^ (n + 1)
    have : 1 ≤ 3 ^ n := Nat.one_le_pow _ _ (by decide)
    rw [Nat.pow_succ]
    omega
