/-! the class's typing: how its calls go together -/
/-- while the class types: L the kept types, L' the table now, env what is bound; expressions as in M0 -/
def yX (M0 : sm_M) (L L' env : List Ty) (M : sm_M) : Prop := tabC M L' ∧ (∃ K, L' = L ++ K) ∧ L[0]? = some tyN ∧ M 16 3 = nI env.length ∧ (∀ (j : Nat) (t : Ty), env[j]? = some t → ty_pr L' (M 17 (env.length - 1 - j)) (some t)) ∧ (∀ q, 9 ≤ q → q ≤ 15 → M q = M0 q) ∧ ∀ t ∈ L', tyok t
def yF (m : Nat) (M' M : sm_M) : Prop := (∀ q, 8 < q → q ≠ 16 → q ≠ 17 → M' q = M q) ∧ ∀ j, j < m → M' 17 j = M 17 j
def yQ (M0 : sm_M) (L : List Ty) (P : Ty → Prop) (b : Nat) (L' env : List Ty) (M : sm_M) (D : sm_D) (j : Option sm_S) : Prop := ∃ (x : Int32) (K' : List Ty) (M' : sm_M), j = some (x, D, M') ∧ yX M0 L (L' ++ K') env M' ∧ yR P (L' ++ K') x ∧ yF env.length M' M ∧ K'.length ≤ b
section
variable {M0 M : sm_M} {L L' env : List Ty} {P Q : Ty → Prop} {b b2 : Nat} {D : sm_D} {j : Option sm_S} {x : Int32}
theorem yX.tn (h : yX M0 L L' env M) : L'[0]? = some tyN := by
  obtain ⟨-, ⟨K, rfl⟩, h0, -⟩ := h
  rw [List.getElem?_append_left (List.getElem?_eq_some_iff.mp h0).1]
  exact h0
theorem yX.pre (h : yX M0 L L' env M) {i : Nat} {t : Ty} (hi : L[i]? = some t) : L'[i]? = some t := by
  obtain ⟨-, ⟨K, rfl⟩, -⟩ := h
  rw [List.getElem?_append_left (List.getElem?_eq_some_iff.mp hi).1]
  exact hi
theorem yX.lt (h : yX M0 L L' env M) : L'.length < 2 ^ 31 := h.1.lt
theorem yX.nd (h : yX M0 L L' env M) : L'.Nodup := h.1.2.2.1
theorem yQ.bi {f : Int32 → sm_M → Option sm_S} (h : yQ M0 L P b L' env M D j) (hf : ∀ (x : Int32) (K1 : List Ty) (M1 : sm_M), K1.length ≤ b → yX M0 L (L' ++ K1) env M1 → yR P (L' ++ K1) x → yQ M0 L Q b2 (L' ++ K1) env M1 D (f x M1)) : yQ M0 L Q (b + b2) L' env M D (sm_bi j (fun x E M' => sm_dq E D (f x M'))) := by
  obtain ⟨x, K1, M1, rfl, hX, hR, hF, hK⟩ := h
  obtain ⟨y, K2, M2, e, hX2, hR2, hF2, hK2⟩ := hf x K1 M1 hK hX hR
  refine ⟨y, K1 ++ K2, M2, ?_, ?_, ?_, ⟨fun q a b c => (hF2.1 q a b c).trans (hF.1 q a b c), fun j hj => (hF2.2 j hj).trans (hF.2 j hj)⟩, by rw [List.length_append]; omega⟩
  · rw [bi_some, dq_self, e]
  · rw [← List.append_assoc]; exact hX2
  · rw [← List.append_assoc]; exact hR2
theorem yQ.ret (hX : yX M0 L L' env M) (hR : yR P L' x) : yQ M0 L P b L' env M D (some (x, D, M)) := ⟨x, [], M, rfl, by rw [List.append_nil]; exact hX, by rw [List.append_nil]; exact hR, ⟨fun _ _ _ _ => rfl, fun _ _ => rfl⟩, Nat.zero_le _⟩
theorem yQ.mono (h : yQ M0 L P b L' env M D j) (hb : b ≤ b2) (e : ∀ t, P t ↔ Q t) : yQ M0 L Q b2 L' env M D j := by
  obtain ⟨x, K1, M1, h1, h2, h3, h4, h5⟩ := h
  exact ⟨x, K1, M1, h1, h2, h3.iff e, h4, by omega⟩
/-- the answer is NUMBER -/
theorem yR.n0 (h : yR P L' x) (hX : yX M0 L L' env M) : x = 0 ↔ P tyN := h.is (i := 0) hX.nd hX.lt hX.tn
/-- what may be asked of the typing one step less deep -/
def yP (M0 : sm_M) (L : List Ty) (nE : Nat) (D : sm_D) (n : Nat) (rec : Int32 → sm_D → sm_M → Option sm_S) : Prop := ∀ (env : List Ty) (e : Nat) (M : sm_M) (L' : List Ty), yX M0 L L' env M → e < nE → (∃ g : Nat, M0 15 e = nI g ∧ g ≤ n) → env.length + 2 * n ≤ 16 → L'.length + pw n < 800 → yQ M0 L (pT (M0 10) (M0 11) (M0 12) (M0 13) (M0 14) L n env e) (pw n) L' env M D (rec (nI e) D M)
section
variable {rec : Int32 → sm_D → sm_M → Option sm_S} {n nE e : Nat}
/-- a part of e is typed -/
theorem y_part (hE : nE ≤ 40) (hr : yP M0 L nE D n rec) (hX : yX M0 L L' env M) (he : e < nE) {h : Nat} (hh : h ≤ n + 1) {w : Int32} {f : Nat → Int32} (hw : f e = w) (hp : exP M0 e h w) (hn : env.length + 2 * n ≤ 16) (hl : L'.length + pw n < 800) : yQ M0 L (pT (M0 10) (M0 11) (M0 12) (M0 13) (M0 14) L n env (xN f e)) (pw n) L' env M D (rec w D M) := by
  obtain ⟨e', g, h1, h2, h3, h4⟩ := hp
  subst h2
  have hx : xN f e = e' := by
    unfold xN
    rw [hw]
    exact nI_clamp (by omega)
  rw [hx]
  exact hr env e' M L' hX (by omega) ⟨g, h3, by omega⟩ hn hl
theorem y_reck (hE : nE ≤ 40) (hr : yP M0 L nE D n rec) (hX : yX M0 L L' env M) (he : e < nE) {h : Nat} (hh : h ≤ n + 1) (px : exP M0 e h (M0 12 e)) (py : exP M0 e h (M0 13 e)) (hn : env.length + 2 * n ≤ 16) (hl : L'.length + 2 * pw n < 800) : yQ M0 L (fun t => t = tyN ∧ pT (M0 10) (M0 11) (M0 12) (M0 13) (M0 14) L n env (xN (M0 12) e) tyN ∧ pT (M0 10) (M0 11) (M0 12) (M0 13) (M0 14) L n env (xN (M0 13) e) tyN) (pw n + pw n) L' env M D (jY_ofReckoning rec (nI e) D M) := by
  have ke : ∀ {ρ : Type} {q : Option ρ}, sm_ck (nI e) 40 q = q := ck_nI (by omega) (by decide)
  have ce : (nI e).toNatClampNeg = e := nI_clamp (by omega)
  have e12 := hX.2.2.2.2.2.1 12 (by decide) (by decide)
  unfold jY_ofReckoning
  rw [ke, ce, e12]
  refine (y_part hE hr hX he hh rfl px hn (by omega)).bi (fun x1 K1 M1 hK1 hX1 hR1 => ?_)
  by_cases g1 : x1 = 0
  · have e13 := hX1.2.2.2.2.2.1 13 (by decide) (by decide)
    rw [if_pos g1, ke, e13]
    refine yQ.mono (b := pw n + 0) ((y_part hE hr hX1 he hh rfl py hn (by rw [List.length_append]; omega)).bi (Q := fun t => t = tyN ∧ pT (M0 10) (M0 11) (M0 12) (M0 13) (M0 14) L n env (xN (M0 12) e) tyN ∧ pT (M0 10) (M0 11) (M0 12) (M0 13) (M0 14) L n env (xN (M0 13) e) tyN) (fun x2 K2 M2 hK2 hX2 hR2 => ?_)) (Nat.le_refl _) (fun t => Iff.rfl)
    by_cases g2 : x2 = 0
    · rw [if_pos g2]
      exact yQ.ret hX2 (yR.of (fun t u a b => a.1.trans b.1.symm) ⟨rfl, (hR1.n0 hX1).mp g1, (hR2.n0 hX2).mp g2⟩ (Or.inr ⟨0, tyN, rfl, hX2.tn, nI_0.symm⟩))
    · rw [if_neg g2]
      exact yQ.ret hX2 (yR.no (fun t q => g2 ((hR2.n0 hX2).mpr q.2.2)))
  · rw [if_neg g1]
    exact yQ.ret hX1 (yR.no (fun t q => g1 ((hR1.n0 hX1).mpr q.2.1)))
end
end
