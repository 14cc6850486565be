/-! compile: what both sides hold while they write -/
def ct4 (o : Nat → Int32) : Nat → Nat
  | 0 => 0
  | n + 1 => ct4 o n + (if o n = 4 then 1 else 0)
theorem ct4_cg {o o' : Nat → Int32} : ∀ n : Nat, (∀ i, i < n → o' i = o i) → ct4 o' n = ct4 o n
  | 0, _ => rfl
  | n + 1, h => by
    show ct4 o' n + _ = ct4 o n + _
    rw [ct4_cg n (fun i hi => h i (by omega)), h n (by omega)]
theorem ct4_up {o : Nat → Int32} {n : Nat} {x : Int32} : ct4 (upd o n x) (n + 1) = ct4 o n + (if x = 4 then 1 else 0) := by
  show ct4 (upd o n x) n + _ = _
  rw [ct4_cg n (fun i hi => upd_ne (by omega)), upd_at]
theorem ct4_le {o : Nat → Int32} : ∀ n : Nat, ct4 o n ≤ n
  | 0 => Nat.le_refl _
  | n + 1 => by
    have := ct4_le (o := o) n
    show ct4 o n + _ ≤ _
    by_cases g : o n = 4
    · rw [if_pos g]; omega
    · rw [if_neg g]; omega
/-- what the class leaves alone -/
def wFc (B : sm_M) (p : Nat) (M : sm_M) : Prop := ∀ q, 8 < q → (q < 24 ∨ 30 < q) → (q < p ∨ p + 9 < q) → M q = B q
/-- and the reference -/
def wFr (Bm M : sm_M) : Prop := (∀ q, (7 ≤ q ∧ q ≤ 28) ∨ 46 < q → M q = Bm q) ∧ ∀ j, j ≠ 1 → j ≠ 39 → (j < 47 ∨ 54 < j) → M 1 j = Bm 1 j
/-- the tables -/
def wTb (L LM0 FR : List Ty) (k0 nC : Nat) (LC LR : List Ty) (Mc Mm : sm_M) : Prop := tabC Mc LC ∧ (∃ K, LC = L ++ K) ∧ tabM Mm LR ∧ (∃ K, LR = LM0 ++ K) ∧ LC.length + cU LC FR ≤ L.length + FR.length + ct4 (Mm 29) nC ∧ LR.length ≤ LM0.length + ct4 (Mm 29) nC + k0 ∧ (∀ a b, tyF a b ∈ LC → tyR b ∈ FR) ∧ (∀ t, t ∈ LC → tyok t) ∧ LC[0]? = some tyN ∧ LR[0]? = some tyN
/-- the instructions -/
def wRow (p : Nat) (LC LR : List Ty) (W : Nat → Ty) (Mc Mm : sm_M) (i : Nat) : Prop := Mc (p + 1) i = Mm 29 i ∧ Mc (p + 2) i = Mm 30 i ∧ Mc (p + 3) i = Mm 31 i ∧ frm (Mm 29 i) (Mm 30 i) (Mm 31 i) (Mm 32 i) ∧ (Mm 29 i ≠ 7 → Mc (p + 4) i = Mm 32 i ∧ Mc (p + 5) i = Mm 32 i) ∧ (Mm 29 i = 7 → ty_pr LC (Mc (p + 4) i) (some (W i)) ∧ ty_pr LR (Mm 32 i) (some (W i)) ∧ Mc (p + 5) i = nI (ty_sz (W i)) ∧ wOk (W i))
/-- a block that is open -/
def wBo (p nC : Nat) (LC LR : List Ty) (A : Nat → Option Ty) (Mc Mm : sm_M) (b : Nat) : Prop := (∃ s l : Nat, s + l ≤ nC ∧ Mc (p + 6) b = nI s ∧ Mm 33 b = nI s ∧ Mc (p + 7) b = nI l ∧ Mm 34 b = nI l) ∧ ∀ k, k < 3 → ty_pr LC (Mc (p + 8) (3 * b + k)) (A (3 * b + k)) ∧ ty_pr LR (Mm 35 (3 * b + k)) (A (3 * b + k)) ∧ Mc (p + 9) (3 * b + k) = nI (ty_so (A (3 * b + k)))
/-- the blocks: each open, or one of Ex, or a body's (PB) that is still to be written -/
def wBk (p nC nB cur nD k0 : Nat) (Ex PB : List Nat) (LC LR : List Ty) (A : Nat → Option Ty) (Mc Mm : sm_M) : Prop := (∀ b, b < nB → wBo p nC LC LR A Mc Mm b ∨ b ∈ Ex ++ PB) ∧ (∀ b, b ∈ Ex ++ PB → b < nB ∧ Mc (p + 7) b = 0 ∧ b ≠ cur) ∧ (Ex ++ PB).Nodup ∧ k0 + PB.length = nD ∧ ∀ i b, PB[i]? = some b → Mc 30 (k0 + i) = nI b
/-- an environment -/
def wEv (LC LR : List Ty) (TE : Nat → Ty) (BD : Nat → List Ty) (Mc Mm : sm_M) (i : Nat) : Prop := ty_pr LC (Mc 25 i) (some (TE i)) ∧ ty_pr LR (Mm 42 i) (some (TE i)) ∧ ((i = 0 ∧ BD i = [] ∧ TE i = tyN ∧ Mm 43 i = 0) ∨ ∃ (j : Nat) (u : Ty), j < i ∧ Mc 26 i = nI j ∧ Mm 40 i = nI j ∧ TE i = tyP (TE j) u ∧ ty_pr LR (Mm 41 i) (some u) ∧ ((Mc 27 i = 1 ∧ Mm 43 i = 1 ∧ BD i = u :: BD j) ∨ (Mc 27 i = 0 ∧ Mm 43 i = 0 ∧ BD i = BD j)))
/-- a body that is to be written -/
def wBd (nE nB nV : Nat) (B : sm_M) (L : List Ty) (BD : Nat → List Ty) (Mc Mm : sm_M) (k : Nat) : Prop := ∃ (e v b tt m : Nat) (ta tb : Ty), e < nE ∧ v < nV ∧ b < nB ∧ Mc 28 k = nI e ∧ Mm 44 k = nI e ∧ Mc 29 k = nI v ∧ Mm 45 k = nI v ∧ Mc 30 k = nI b ∧ Mm 46 k = nI b ∧ B 10 e = 6 ∧ B 11 e = nI tt ∧ L[tt]? = some (tyF ta tb) ∧ pT (B 10) (B 11) (B 12) (B 13) (B 14) L m (ta :: tyF ta tb :: BD v) (xN (B 12) e) tb
def wS (p nE : Nat) (B Bm : sm_M) (L LM0 FR : List Ty) (k0 : Nat) (Ex PB : List Nat) (nC nB cur nV nD : Nat) (LC LR : List Ty) (W : Nat → Ty) (A : Nat → Option Ty) (TE : Nat → Ty) (BD : Nat → List Ty) (Mc Mm : sm_M) : Prop :=
  (nC ≤ 300 ∧ nB ≤ 40 ∧ cur < nB ∧ 1 ≤ nV ∧ nV ≤ ct4 (Mm 29) nC + 1 ∧ nD + 1 ≤ nB) ∧ wTb L LM0 FR k0 nC LC LR Mc Mm ∧
  (Mc p 6 = nI nC ∧ Mc p 11 = nI nB ∧ Mc p 12 = nI cur ∧ Mc p 15 = 0 ∧ Mc 24 5 = nI nV ∧ Mc 24 9 = nI nD) ∧ (Mm 1 39 = nI nC ∧ Mm 1 52 = nI nB ∧ Mm 1 54 = nI cur ∧ Mm 1 47 = 0 ∧ Mm 1 50 = nI nV ∧ Mm 1 53 = nI nD) ∧
  (∀ i, i < nC → wRow p LC LR W Mc Mm i) ∧ (wBk p nC nB cur nD k0 Ex PB LC LR A Mc Mm ∧ wBo p nC LC LR A Mc Mm cur) ∧ (∀ i, i < nV → wEv LC LR TE BD Mc Mm i) ∧ (∀ k, k < nD → wBd nE nB nV B L BD Mc Mm k) ∧ wFc B p Mc ∧ wFr Bm Mm
/-- the class's code does not fit -/
def wOc (p : Nat) (B : sm_M) (L LC : List Ty) (N mV : Nat) (M : sm_M) : Prop := (tabC M LC ∧ ∀ i, i < mV ∨ i = 0 → ∃ o, ty_pr LC (M 25 i) o ∧ (i = 0 → o = some tyN)) ∧ ((∃ K, LC = L ++ K) ∧ LC.length ≤ N) ∧ M p 15 = 1 ∧ (∃ n, n ≤ 300 ∧ M p 6 = nI n) ∧ (∃ m, m ≤ 40 ∧ M p 11 = nI m) ∧ wFc B p M
theorem wEv.o0 {LC LR : List Ty} {TE : Nat → Ty} {BD : Nat → List Ty} {Mc Mm : sm_M} {i : Nat} (h : wEv LC LR TE BD Mc Mm i) (e : i = 0) : some (TE i) = some tyN := by
  rcases h.2.2 with ⟨-, -, q, -⟩ | ⟨j, u, hj, -⟩
  · rw [q]
  · omega
/-- nor does the reference's -/
def wOr (Bm : sm_M) (LM0 LR : List Ty) (M : sm_M) : Prop := tabM M LR ∧ (∃ K, LR = LM0 ++ K) ∧ M 1 47 = 1 ∧ wFr Bm M
section
variable {p nE : Nat} {B Bm : sm_M} {L LM0 FR : List Ty} {k0 : Nat} {Ex PB : List Nat} {nC nB cur nV nD : Nat} {LC LR : List Ty} {W : Nat → Ty} {A : Nat → Option Ty} {TE : Nat → Ty} {BD : Nat → List Ty} {Mc Mm Mc' Mm' M : sm_M} {D : sm_D} {o : Nat} {a b c c' : Int32}
theorem up_ida {q j : Nat} {x : Int32} (h : M q j = x) : sm_up M q j x = M := by
  funext r i
  by_cases g : r = q
  · subst g
    by_cases g2 : i = j
    · subst g2; rw [up_at, h]
    · rw [up_as g2]
  · rw [up_ne g]
theorem em_ov {k : Int32} (h : M 1 47 = 1) : jR_emit k a b c [] M = some (0, [], M) := by
  unfold jR_emit jR_emit_18 jR_emit_23
  simp only [sm_wr]
  rw [h, if_neg (by decide), bo_1, up_ida h, h, if_neg (by decide)]
theorem em_full {k : Int32} (h : M 1 47 = 0) (h3 : M 1 39 = nI 300) : jR_emit k a b c [] M = some (0, [], sm_up M 1 47 1) := by
  unfold jR_emit jR_emit_18 jR_emit_23
  simp only [sm_wr]
  rw [h, if_pos rfl, h3, if_pos (show nI 300 = 300 from rfl), bo_1, up_at, if_neg (by decide)]
theorem nm_ov (h : M 1 47 = 1) : jR_name [] M = some (M 1 52 - 1, [], M) := by
  unfold jR_name jR_name_17 jR_name_22 jR_name_42
  simp only [sm_wr]
  rw [h, if_neg (by decide), bo_1, up_ida h, h, if_neg (by decide), Int32.add_zero, up_ida rfl]
end
