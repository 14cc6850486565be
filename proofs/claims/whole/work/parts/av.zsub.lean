/-! the reference's typing: a part is begun -/
section
variable {M0 M : sm_M} {L LM LM' env : List Ty} {d e n nE : Nat} {x : Int32}
theorem bgF_X (h : zX M0 LM LM' env d M) : zX M0 LM LM' env (d + 1) (bgF M d x) := by
  obtain ⟨h1, h2, h3, h4, h5, h6, h7⟩ := h
  have o : ∀ q, q ≠ 1 → q ≠ 18 → q ≠ 19 → bgF M d x q = M q := fun q a b c => by unfold bgF; rw [up_ne a, up_ne c, up_ne b]
  refine ⟨tabM_o (fun q a b => o q (by omega) (by omega) (by omega)) ?_ h1, h2, h3, up_at, ?_, fun j t hj => by rw [o 23 (by decide) (by decide) (by decide)]; exact h6 j t hj, fun q a b => by rw [o q (by omega) (by omega) (by omega)]; exact h7 q a b⟩
  · unfold bgF; rw [up_as (by decide), up_ne (by decide), up_ne (by decide)]
  · unfold bgF; rw [up_as (by decide), up_ne (by decide), up_ne (by decide)]; exact h5
theorem bgF_F {m : Nat} : zF d m (bgF M d x) M := by
  have o : ∀ q, q ≠ 1 → q ≠ 18 → q ≠ 19 → bgF M d x q = M q := fun q a b c => by unfold bgF; rw [up_ne a, up_ne c, up_ne b]
  refine ⟨⟨fun q a b => o q (by omega) (by omega) (by omega), fun q a => o q (by omega) (by omega) (by omega), fun j a b c f => ?_⟩, fun j hj => ⟨?_, ?_, by rw [o 20 (by decide) (by decide) (by decide)], by rw [o 21 (by decide) (by decide) (by decide)]⟩, fun j _ => by rw [o 23 (by decide) (by decide) (by decide)]⟩
  · unfold bgF; rw [up_as b, up_ne (by decide), up_ne (by decide)]
  · unfold bgF; rw [up_ne (by decide), up_ne (by decide), up_as (by omega)]
  · unfold bgF; rw [up_ne (by decide), up_as (by omega), up_ne (by decide)]
theorem bgF_18 : bgF M d x 18 d = x := by unfold bgF; rw [up_ne (by decide), up_ne (by decide), up_at]
theorem bgF_19 : bgF M d x 19 d = nI 0 := by unfold bgF; rw [up_ne (by decide), up_at]; rfl
/-- what may be asked of the typing one step less deep -/
def zI (M0 : sm_M) (L LM : List Ty) (nE n : Nat) : Prop := ∀ (env : List Ty) (e : Nat) (M : sm_M) (LM' : List Ty) (d : Nat), zX M0 LM LM' env (d + 1) M → (∀ u ∈ env, tyS L u) → M 18 d = nI e → M 19 d = nI 0 → e < nE → (∃ g : Nat, M0 17 e = nI g ∧ g ≤ n) → d + n ≤ 60 → env.length + 2 * n ≤ 16 → LM'.length + pw n < 3000 → zQ M0 LM (pT (M0 12) (M0 13) (M0 14) (M0 15) (M0 16) L n env e) (pw n) LM' env d M
theorem z_sub (hE : nE ≤ 40) (hi : zI M0 L LM nE n) (hs : ∀ u ∈ env, tyS L u) (hX : zX M0 LM LM' env d M) {g : Nat} (he : e < nE) (hg : M0 17 e = nI g) (hgn : g ≤ n) (hd : d + n ≤ 60) (hn : env.length + 2 * n ≤ 16) (hl : LM'.length + pw n < 3000) : zQ M0 LM (pT (M0 12) (M0 13) (M0 14) (M0 15) (M0 16) L n env e) (pw n) LM' env d (bgF M d (nI e)) := hi env e _ LM' d (bgF_X hX) hs bgF_18 bgF_19 he ⟨g, hg, hgn⟩ hd hn hl
end
