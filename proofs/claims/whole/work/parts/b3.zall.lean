/-! the reference's typing, all -/
section
variable {M0 M : sm_M} {L LM LM' env : List Ty} {n nE : Nat}
/-- what the reference's rows of expressions are like -/
def zH (L LM : List Ty) (M0 : sm_M) (i : Nat) : Prop := ∃ k h : Nat, k ≤ 10 ∧ M0 12 i = nI k ∧ 1 ≤ h ∧ h ≤ 8 ∧ M0 17 i = nI h ∧ (0 < tPn k → zE M0 i h (M0 14 i)) ∧ (1 < tPn k → zE M0 i h (M0 15 i)) ∧ (2 < tPn k → zE M0 i h (M0 16 i)) ∧ (k = 1 → ∃ v : Nat, v ≤ 20 ∧ M0 13 i = nI v) ∧ (k = 6 → ∃ (t r : Nat) (a b : Ty), M0 13 i = nI t ∧ L[t]? = some (tyF a b) ∧ t < 30 ∧ M0 7 t = nI r ∧ LM[r]? = some (tyF a b))
theorem zQ.mono {P Q : Ty → Prop} {b b' d : Nat} (h : zQ M0 LM P b LM' env d M) (hb : b ≤ b') (hPQ : ∀ t, P t ↔ Q t) : zQ M0 LM Q b' LM' env d M := by
  rcases h with ⟨t, K', M', h1, h2, h3, h4, h5, h6⟩ | ⟨h1, K', M', h2, h3, h4, h5⟩
  · exact Or.inl ⟨t, K', M', (hPQ t).mp h1, h2, h3, h4, h5, by omega⟩
  · exact Or.inr ⟨fun t q => h1 t ((hPQ t).mpr q), K', M', h2, h3, h4, by omega⟩
theorem z_all (hE : nE ≤ 40) (hL : tyC L) (hok : ∀ u ∈ L, tyok u) (hI : ∀ i, i < nE → zH L LM M0 i) : ∀ n : Nat, zI M0 L LM nE n := by
  intro n
  induction n with
  | zero =>
    intro env e M LM' d hX hs h18 h19 he hg hd hn hl
    obtain ⟨g, hg1, hg2⟩ := hg
    obtain ⟨k, h, a1, a2, a3, a4, a5, -⟩ := hI e he
    have := nI_inj (by omega) (by omega) (hg1.symm.trans a5)
    omega
  | succ n ih =>
    intro env e M LM' d hX hs h18 h19 he hg hd hn hl
    obtain ⟨g, hg1, hg2⟩ := hg
    obtain ⟨k, h, a1, hk, a3, a4, a5, px, py, pz, pv, pf⟩ := hI e he
    have eh := nI_inj (by omega) (by omega) (hg1.symm.trans a5)
    subst eh
    have w3 := pw_3 n
    have hn' : env.length + 2 * n ≤ 16 := by omega
    match k, a1 with
    | 0, _ =>
      refine (z_const (b := pw (n + 1)) (by omega) hX h18 (by omega) h19 hk).mono (Nat.le_refl _) (fun t => ?_)
      refine ((pT_k (n := n) hk (by decide)).trans ⟨fun q => ?_, fun q => Or.inl ⟨rfl, q⟩⟩).symm
      rcases q with ⟨z, q⟩ | ⟨z, q⟩ | ⟨z, q⟩ | ⟨z, q⟩ | ⟨z, q⟩ | ⟨z, q⟩ | ⟨z, q⟩ | ⟨z, q⟩ | ⟨z, q⟩ <;> first | exact absurd z (by decide) | exact q
    | 1, _ =>
      obtain ⟨v, hv, ev⟩ := pv rfl
      have hx : xN (M0 13) e = v := by unfold xN; rw [ev]; exact nI_clamp (by omega)
      refine (z_var (b := pw (n + 1)) (by omega) hX h18 (by omega) h19 hk hv ev (by omega)).mono (Nat.le_refl _) (fun t => ?_)
      rw [← hx]
      refine ((pT_k (n := n) hk (by decide)).trans ⟨fun q => ?_, fun q => Or.inr (Or.inl ⟨rfl, q⟩)⟩).symm
      rcases q with ⟨z, q⟩ | ⟨z, q⟩ | ⟨z, q⟩ | ⟨z, q⟩ | ⟨z, q⟩ | ⟨z, q⟩ | ⟨z, q⟩ | ⟨z, q⟩ | ⟨z, q⟩ <;> first | exact absurd z (by decide) | exact q
    | 2, _ =>
      refine (z_reck hE ih hs hd hX h18 he h19 hk (Or.inl rfl) (px (by decide)) (py (by decide)) hg2 hn' (by omega)).mono (by omega) (fun t => ?_)
      refine ((pT_k (n := n) hk (by decide)).trans ⟨fun q => ?_, fun q => Or.inr (Or.inr (Or.inl ⟨Or.inl rfl, q⟩))⟩).symm
      rcases q with ⟨z, q⟩ | ⟨z, q⟩ | ⟨z, q⟩ | ⟨z, q⟩ | ⟨z, q⟩ | ⟨z, q⟩ | ⟨z, q⟩ | ⟨z, q⟩ | ⟨z, q⟩ <;> first | exact absurd z (by decide) | exact q
    | 3, _ =>
      refine (z_reck hE ih hs hd hX h18 he h19 hk (Or.inr (Or.inl rfl)) (px (by decide)) (py (by decide)) hg2 hn' (by omega)).mono (by omega) (fun t => ?_)
      refine ((pT_k (n := n) hk (by decide)).trans ⟨fun q => ?_, fun q => Or.inr (Or.inr (Or.inl ⟨Or.inr (Or.inl rfl), q⟩))⟩).symm
      rcases q with ⟨z, q⟩ | ⟨z, q⟩ | ⟨z, q⟩ | ⟨z, q⟩ | ⟨z, q⟩ | ⟨z, q⟩ | ⟨z, q⟩ | ⟨z, q⟩ | ⟨z, q⟩ <;> first | exact absurd z (by decide) | exact q
    | 4, _ =>
      refine (z_reck hE ih hs hd hX h18 he h19 hk (Or.inr (Or.inr rfl)) (px (by decide)) (py (by decide)) hg2 hn' (by omega)).mono (by omega) (fun t => ?_)
      refine ((pT_k (n := n) hk (by decide)).trans ⟨fun q => ?_, fun q => Or.inr (Or.inr (Or.inl ⟨Or.inr (Or.inr rfl), q⟩))⟩).symm
      rcases q with ⟨z, q⟩ | ⟨z, q⟩ | ⟨z, q⟩ | ⟨z, q⟩ | ⟨z, q⟩ | ⟨z, q⟩ | ⟨z, q⟩ | ⟨z, q⟩ | ⟨z, q⟩ <;> first | exact absurd z (by decide) | exact q
    | 5, _ =>
      refine (z_choice hE ih hs hd hX h18 he h19 hk (px (by decide)) (py (by decide)) (pz (by decide)) hg2 hn' (by omega)).mono (by omega) (fun t => ?_)
      refine ((pT_k (n := n) hk (by decide)).trans ⟨fun q => ?_, fun q => Or.inr (Or.inr (Or.inr (Or.inl ⟨rfl, q⟩)))⟩).symm
      rcases q with ⟨z, q⟩ | ⟨z, q⟩ | ⟨z, q⟩ | ⟨z, q⟩ | ⟨z, q⟩ | ⟨z, q⟩ | ⟨z, q⟩ | ⟨z, q⟩ | ⟨z, q⟩ <;> first | exact absurd z (by decide) | exact q
    | 6, _ =>
      obtain ⟨tt, r, ta, tb, et, htt, ht30, h7, hr⟩ := pf rfl
      refine (z_lambda hE ih hL hs hd hX h18 he h19 hk (px (by decide)) et htt ht30 h7 hr hg2 hn (by omega)).mono (by omega) (fun t => ?_)
      refine ((pT_k (n := n) hk (by decide)).trans ⟨fun q => ?_, fun q => Or.inr (Or.inr (Or.inr (Or.inr (Or.inl ⟨rfl, q⟩))))⟩).symm
      rcases q with ⟨z, q⟩ | ⟨z, q⟩ | ⟨z, q⟩ | ⟨z, q⟩ | ⟨z, q⟩ | ⟨z, q⟩ | ⟨z, q⟩ | ⟨z, q⟩ | ⟨z, q⟩ <;> first | exact absurd z (by decide) | exact q
    | 7, _ =>
      refine (z_call hE ih hL hok hs hd hX h18 he h19 hk (px (by decide)) (py (by decide)) hg2 hn' (by omega)).mono (by omega) (fun t => ?_)
      refine ((pT_k (n := n) hk (by decide)).trans ⟨fun q => ?_, fun q => Or.inr (Or.inr (Or.inr (Or.inr (Or.inr (Or.inl ⟨rfl, q⟩)))))⟩).symm
      rcases q with ⟨z, q⟩ | ⟨z, q⟩ | ⟨z, q⟩ | ⟨z, q⟩ | ⟨z, q⟩ | ⟨z, q⟩ | ⟨z, q⟩ | ⟨z, q⟩ | ⟨z, q⟩ <;> first | exact absurd z (by decide) | exact q
    | 8, _ =>
      have n1 : 1 ≤ n := by
        obtain ⟨e', g', b1, -, b3, b4⟩ := px (by decide)
        obtain ⟨k', h', -, -, c3, c4, c5, -⟩ := hI e' (by omega)
        have := nI_inj (by omega) (by omega) (b3.symm.trans c5)
        omega
      have w2 := pw_2 n1
      refine (z_pair hE ih hs hd hX h18 he h19 hk (px (by decide)) (py (by decide)) hg2 hn' (by omega)).mono (by omega) (fun t => ?_)
      refine ((pT_k (n := n) hk (by decide)).trans ⟨fun q => ?_, fun q => Or.inr (Or.inr (Or.inr (Or.inr (Or.inr (Or.inr (Or.inl ⟨rfl, q⟩))))))⟩).symm
      rcases q with ⟨z, q⟩ | ⟨z, q⟩ | ⟨z, q⟩ | ⟨z, q⟩ | ⟨z, q⟩ | ⟨z, q⟩ | ⟨z, q⟩ | ⟨z, q⟩ | ⟨z, q⟩ <;> first | exact absurd z (by decide) | exact q
    | 9, _ =>
      refine (z_half hE ih hL hok hs hd hX h18 he h19 hk (Or.inl rfl) (px (by decide)) hg2 hn' (by omega)).mono (by omega) (fun t => ?_)
      refine ((pT_k (n := n) hk (by decide)).trans ⟨fun q => ?_, fun q => Or.inr (Or.inr (Or.inr (Or.inr (Or.inr (Or.inr (Or.inr q))))))⟩).symm
      rcases q with ⟨z, q⟩ | ⟨z, q⟩ | ⟨z, q⟩ | ⟨z, q⟩ | ⟨z, q⟩ | ⟨z, q⟩ | ⟨z, q⟩ | q <;> first | exact absurd z (by decide) | exact q
    | 10, _ =>
      refine (z_half hE ih hL hok hs hd hX h18 he h19 hk (Or.inr rfl) (px (by decide)) hg2 hn' (by omega)).mono (by omega) (fun t => ?_)
      refine ((pT_k (n := n) hk (by decide)).trans ⟨fun q => ?_, fun q => Or.inr (Or.inr (Or.inr (Or.inr (Or.inr (Or.inr (Or.inr q))))))⟩).symm
      rcases q with ⟨z, q⟩ | ⟨z, q⟩ | ⟨z, q⟩ | ⟨z, q⟩ | ⟨z, q⟩ | ⟨z, q⟩ | ⟨z, q⟩ | q <;> first | exact absurd z (by decide) | exact q
    | k + 11, hk11 => omega
end
