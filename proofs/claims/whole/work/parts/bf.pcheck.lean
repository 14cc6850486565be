/-! the check, purely -/
def ty_un : Ty → Option Ty
  | .op _ t => some t
  | _ => none
def ty_kd : Ty → Nat
  | .op (.var (k + 1)) _ => k
  | _ => 9
def ty_p1 : Ty → Option Ty
  | .op _ (.op a _) => ty_un a
  | _ => none
def ty_p2 : Ty → Option Ty
  | .op _ (.op _ (.op b _)) => ty_un b
  | _ => none
def ty_p3 : Ty → Option Ty
  | .op _ (.op _ (.op _ c)) => ty_un c
  | _ => none
theorem kd_mk (k : Nat) (a b c : Option Ty) : ty_kd (ty_mk k a b c) = k := rfl
theorem kd_hid (n : Nat) : ty_kd (ty_hid n) = 5 := rfl
theorem p1_mk (k : Nat) (a b c : Option Ty) : ty_p1 (ty_mk k a b c) = a := by cases a <;> rfl
theorem p2_mk (k : Nat) (a b c : Option Ty) : ty_p2 (ty_mk k a b c) = b := by cases b <;> rfl
theorem p3_mk (k : Nat) (a b c : Option Ty) : ty_p3 (ty_mk k a b c) = c := by cases c <;> rfl
/-- what a wrapped or opened type waits for -/
def wR (w : Ty) : Option Ty := if ty_kd w = 2 then (ty_p2 w).map tyR else none
theorem wR_F (a b : Ty) : wR (tyF a b) = some (tyR b) := rfl
theorem wR_R (a : Ty) : wR (tyR a) = none := rfl
/-- the registers with one set -/
def rg (R : Nat → Option Ty) (r : Nat) (t : Option Ty) : Nat → Option Ty := fun k => if k = r then t else R k
/-- the registers hold what is asked -/
def pFit (R : Nat → Option Ty) (x y z : Option Ty) : Prop := (x = none ∨ R 1 = x) ∧ (y = none ∨ R 2 = y) ∧ (z = none ∨ R 3 = z)
def pBl (nB : Nat) (A : Nat → Option Ty) (R : Nat → Option Ty) (x : Int32) : Prop := ∃ n, n < nB ∧ x = nI n ∧ pFit R (A (3 * n)) (A (3 * n + 1)) (A (3 * n + 2))
/-- the instruction i, of kind k, is right where R is held, and R' is held behind it; hidden types are named h + i -/
def pI (nB : Nat) (W : Nat → Ty) (A : Nat → Option Ty) (a b c : Nat → Int32) (h i : Nat) (R R' : Nat → Option Ty) : Nat → Prop
  | 0 => R' = rg R (xN a i) (some tyN)
  | 1 => R (xN b i) = some tyN ∧ R (xN c i) = some tyN ∧ R' = rg R (xN a i) (some tyN)
  | 2 => R (xN b i) = some tyN ∧ R (xN c i) = some tyN ∧ R' = rg R (xN a i) (some tyN)
  | 3 => R (xN b i) = some tyN ∧ R (xN c i) = some tyN ∧ R' = rg R (xN a i) (some tyN)
  | 4 => ∃ t u, R (xN b i) = some t ∧ R (xN c i) = some u ∧ R' = rg R (xN a i) (some (tyP t u))
  | 5 => ∃ q1 q2 q3, R (xN b i) = some (ty_mk 1 q1 q2 q3) ∧ R' = rg R (xN a i) (if c i = 0 then q1 else q2)
  | 6 => ∃ n, n < nB ∧ b i = nI n ∧ R' = rg R (xN a i) (some (ty_mk 4 (A (3 * n)) (A (3 * n + 1)) (A (3 * n + 2))))
  | 7 => ∃ q q3, R (xN b i) = some (ty_mk 1 (some (ty_mk 4 q (ty_p1 (W i)) (wR (W i)))) q q3) ∧ R' = rg R (xN a i) (some (W i))
  | 8 => ∃ k q1 q2 q3, R (xN c i) = some (ty_mk k q1 q2 q3) ∧ (k = 2 ∨ k = 3) ∧ R' = rg (rg R (xN a i) (some (ty_mk 4 (some (ty_hid (h + i))) q1 (if k = 2 then some (ty_mk 3 q2 none none) else none)))) (xN b i) (some (ty_hid (h + i)))
  | 9 => pBl nB A R (a i) ∧ R' = R
  | 10 => R (xN a i) = some tyN ∧ pBl nB A R (b i) ∧ R' = R
  | 11 => ∃ x y z, R (xN a i) = some (ty_mk 4 x y z) ∧ pFit R x y z ∧ R' = R
  | _ => R 2 = some tyN ∧ R' = R
def pS (nB : Nat) (W : Nat → Ty) (A : Nat → Option Ty) (o a b c : Nat → Int32) (h i : Nat) (R R' : Nat → Option Ty) : Prop := pI nB W A a b c h i R R' (xN o i)
def pEn (o : Nat → Int32) (i : Nat) : Prop := o i = 9 ∨ o i = 11 ∨ o i = 12
/-- the first wrong instruction of the block from s, l long, n still to come; -1 if there is none -/
def pK (nB : Nat) (W : Nat → Ty) (A : Nat → Option Ty) (o a b c : Nat → Int32) (h s l : Nat) : Nat → (Nat → Option Ty) → Int32 → Prop
  | 0, _, v => (0 < l ∧ pEn o (s + l - 1) ∧ v = -1) ∨ (¬ (0 < l ∧ pEn o (s + l - 1)) ∧ v = nI l)
  | n + 1, R, v => ((0 < l - (n + 1) ∧ pEn o (s + (l - (n + 1)) - 1)) ∧ v = nI (l - (n + 1))) ∨ (¬ (0 < l - (n + 1) ∧ pEn o (s + (l - (n + 1)) - 1)) ∧ ((∃ R', pS nB W A o a b c h (s + (l - (n + 1))) R R' ∧ pK nB W A o a b c h s l n R' v) ∨ ((∀ R', ¬ pS nB W A o a b c h (s + (l - (n + 1))) R R') ∧ v = nI (l - (n + 1)))))
/-- what a block's registers hold at its beginning -/
def pR0 (A : Nat → Option Ty) (b : Nat) : Nat → Option Ty := fun k => if k = 1 then A (3 * b) else if k = 2 then A (3 * b + 1) else if k = 3 then A (3 * b + 2) else none
def pD (nB : Nat) (W : Nat → Ty) (A : Nat → Option Ty) (o a b c st le : Nat → Int32) (h : Nat) : Nat → Int32 → Prop
  | 0, v => v = -1
  | n + 1, v => ∃ w, pK nB W A o a b c h (xN st (nB - (n + 1))) (xN le (nB - (n + 1))) (xN le (nB - (n + 1))) (pR0 A (nB - (n + 1))) w ∧ ((w = -1 ∧ pD nB W A o a b c st le h n v) ∨ (w ≠ -1 ∧ v = 1000 * nI (nB - (n + 1)) + w))
def pBg (nB : Nat) (A : Nat → Option Ty) : Prop := 0 < nB ∧ (A 0 = none ∨ A 0 = some tyN) ∧ A 1 = none ∧ A 2 = none
def pVer (nB : Nat) (W : Nat → Ty) (A : Nat → Option Ty) (o a b c st le : Nat → Int32) (h : Nat) (v : Int32) : Prop := (¬ pBg nB A ∧ v = 0) ∨ (pBg nB A ∧ pD nB W A o a b c st le h nB v)
/-- the verdict that the relation keeps -/
def pVV : pVt := fun nB W A o a b c st le v => ∃ H, ∀ h, H ≤ h → pVer nB W A o a b c st le h v
section
variable {nB : Nat} {W : Nat → Ty} {A : Nat → Option Ty} {o a b c st le : Nat → Int32} {h : Nat}
theorem pS_fn (hB : nB ≤ 40) {i : Nat} {R R' R2 : Nat → Option Ty} (h1 : pS nB W A o a b c h i R R') (h2 : pS nB W A o a b c h i R R2) : R' = R2 := by
  unfold pS at h1 h2
  generalize xN o i = k at h1 h2
  match k, h1, h2 with
  | 0, h1, h2 => exact Eq.trans h1 (Eq.symm h2)
  | 1, h1, h2 => exact h1.2.2.trans h2.2.2.symm
  | 2, h1, h2 => exact h1.2.2.trans h2.2.2.symm
  | 3, h1, h2 => exact h1.2.2.trans h2.2.2.symm
  | 4, h1, h2 =>
    obtain ⟨t, u, e1, e2, e3⟩ := h1
    obtain ⟨t', u', f1, f2, f3⟩ := h2
    rw [e3, f3, Option.some.inj (e1.symm.trans f1), Option.some.inj (e2.symm.trans f2)]
  | 5, h1, h2 =>
    obtain ⟨q1, q2, q3, e1, e3⟩ := h1
    obtain ⟨r1, r2, r3, f1, f3⟩ := h2
    obtain ⟨-, z1, z2, -⟩ := ty_mk_inj (Option.some.inj (e1.symm.trans f1))
    rw [e3, f3, z1, z2]
  | 6, h1, h2 =>
    obtain ⟨n, e1, e2, e3⟩ := h1
    obtain ⟨n', f1, f2, f3⟩ := h2
    have : n = n' := nI_inj (by omega) (by omega) (e2.symm.trans f2)
    subst this
    rw [e3, f3]
  | 7, h1, h2 =>
    obtain ⟨r, r3, e1, e2⟩ := h1
    obtain ⟨r', r3', f1, f2⟩ := h2
    rw [e2, f2]
  | 8, h1, h2 =>
    obtain ⟨k1, q1, q2, q3, e1, -, e2⟩ := h1
    obtain ⟨k2, r1, r2, r3, f1, -, f2⟩ := h2
    obtain ⟨z0, z1, z2, -⟩ := ty_mk_inj (Option.some.inj (e1.symm.trans f1))
    rw [e2, f2, z0, z1, z2]
  | 9, h1, h2 => exact h1.2.trans h2.2.symm
  | 10, h1, h2 => exact h1.2.2.trans h2.2.2.symm
  | 11, h1, h2 =>
    obtain ⟨x, y, z, -, -, e⟩ := h1
    obtain ⟨x', y', z', -, -, f⟩ := h2
    rw [e, f]
  | k + 12, h1, h2 => exact h1.2.trans h2.2.symm
theorem pK_fn (hB : nB ≤ 40) {s l : Nat} : ∀ (n : Nat) (R : Nat → Option Ty) (v v' : Int32), pK nB W A o a b c h s l n R v → pK nB W A o a b c h s l n R v' → v = v'
  | 0, R, v, v', h1, h2 => by
    rcases h1 with ⟨p, q, e⟩ | ⟨p, e⟩ <;> rcases h2 with ⟨p', q', e'⟩ | ⟨p', e'⟩
    · rw [e, e']
    · exact absurd ⟨p, q⟩ p'
    · exact absurd ⟨p', q'⟩ p
    · rw [e, e']
  | n + 1, R, v, v', h1, h2 => by
    rcases h1 with ⟨p, e⟩ | ⟨p, h1⟩ <;> rcases h2 with ⟨p', e'⟩ | ⟨p', h2⟩
    · rw [e, e']
    · exact absurd p p'
    · exact absurd p' p
    · rcases h1 with ⟨R1, s1, k1⟩ | ⟨s1, e⟩ <;> rcases h2 with ⟨R2, s2, k2⟩ | ⟨s2, e'⟩
      · have := pS_fn hB s1 s2
        subst this
        exact pK_fn hB n _ v v' k1 k2
      · exact absurd s1 (s2 R1)
      · exact absurd s2 (s1 R2)
      · rw [e, e']
theorem pD_fn (hB : nB ≤ 40) : ∀ (n : Nat) (v v' : Int32), pD nB W A o a b c st le h n v → pD nB W A o a b c st le h n v' → v = v'
  | 0, v, v', h1, h2 => Eq.trans h1 (Eq.symm h2)
  | n + 1, v, v', h1, h2 => by
    obtain ⟨w, k1, h1⟩ := h1
    obtain ⟨w', k2, h2⟩ := h2
    have := pK_fn hB _ _ _ _ k1 k2
    subst this
    rcases h1 with ⟨p, h1⟩ | ⟨p, e⟩ <;> rcases h2 with ⟨p', h2⟩ | ⟨p', e'⟩
    · exact pD_fn hB n v v' h1 h2
    · exact absurd p p'
    · exact absurd p' p
    · rw [e, e']
theorem pVer_fn (hB : nB ≤ 40) {v v' : Int32} (h1 : pVer nB W A o a b c st le h v) (h2 : pVer nB W A o a b c st le h v') : v = v' := by
  rcases h1 with ⟨p, e⟩ | ⟨p, h1⟩ <;> rcases h2 with ⟨p', e'⟩ | ⟨p', h2⟩
  · rw [e, e']
  · exact absurd p' p
  · exact absurd p p'
  · exact pD_fn hB _ _ _ h1 h2
theorem pVV_fn (hB : nB ≤ 40) {v v' : Int32} (h1 : pVV nB W A o a b c st le v) (h2 : pVV nB W A o a b c st le v') : v = v' := by
  obtain ⟨H, h1⟩ := h1
  obtain ⟨H', h2⟩ := h2
  exact pVer_fn hB (h1 (max H H') (Nat.le_max_left _ _)) (h2 (max H H') (Nat.le_max_right _ _))
end
