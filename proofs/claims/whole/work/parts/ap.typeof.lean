/-! the class's typeOf -/
theorem c_typeOf {L LM : List Ty} {Mc Mm : sm_M} {D : sm_D} (hT : rlT L LM Mc Mm) {nE : Nat} (hE : nE ≤ 40) (hI : ∀ i, i < nE → exI L Mc i) {e : Nat} (he : e < nE) : ∃ (x : Int32) (M' : sm_M), jA_typeOf (nI e) D Mc = some (x, D, M') ∧ tabC M' L ∧ (∀ q, 8 < q → q ≠ 16 → q ≠ 17 → M' q = Mc q) ∧ ∀ (i : Nat) (t : Ty), L[i]? = some t → (x = nI i ↔ pT (Mc 10) (Mc 11) (Mc 12) (Mc 13) (Mc 14) L 8 [] e t) := by
  obtain ⟨a1, a2, a3, a4, -⟩ := hT
  have hX : yX Mc L L [] (sm_up Mc 16 3 0) := ⟨tabC_o (fun q hq => up_ne (by omega)) a1, ⟨[], (List.append_nil L).symm⟩, a3, up_at, fun j t hj => by simp at hj, fun q _ _ => up_ne (by omega), fun t ht => (a4 t ht).1⟩
  have hg : ∃ g : Nat, Mc 15 e = nI g ∧ g ≤ 8 := by
    obtain ⟨k, h, -, -, -, h8, h15, -⟩ := hI e he
    exact ⟨h, h15, h8⟩
  have p8 : pw 8 = 729 := rfl
  obtain ⟨x, K', M2, h1, h2, h3, h4, h5⟩ := y_all (D := D) hE hI 8 [] e (sm_up Mc 16 3 0) L hX he hg (by decide) (by omega)
  obtain ⟨M', f1, f2, f3⟩ := j_forget (D := D) (L := L) K'.length K' M2 rfl h2.1
  refine ⟨x, M', ?_, f2, fun q b1 b2 b3 => ?_, fun i t hi => ?_⟩
  · unfold jA_typeOf
    simp only [jY_typeWhereNothingIsBound, sm_wr]
    rw [h1, bi_some, dq_self, bi_some, dq_self, a1.2.1, f1, bi_some, dq_self]
  · rw [f3 q b1, h4.1 q b1 b2 b3, up_ne b2]
  · exact h3.is h2.nd h2.lt (h2.pre hi)
