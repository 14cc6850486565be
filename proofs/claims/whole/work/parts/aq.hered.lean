/-! types that typing can meet: the kept ones and pairs of such -/
def tyS (L : List Ty) (t : Ty) : Prop := ∀ C : Ty → Prop, (∀ u ∈ L, C u) → (∀ a b, C a → C b → C (tyP a b)) → C t
/-- the parts of kept types are kept -/
def tyC (L : List Ty) : Prop := tyN ∈ L ∧ (∀ a b, tyP a b ∈ L → a ∈ L ∧ b ∈ L) ∧ ∀ a b, tyF a b ∈ L → a ∈ L ∧ b ∈ L
section
variable {L : List Ty} {a b t : Ty}
theorem tyS.mem (h : t ∈ L) : tyS L t := fun _ h1 _ => h1 t h
theorem tyS.pair (ha : tyS L a) (hb : tyS L b) : tyS L (tyP a b) := fun C h1 h2 => h2 a b (ha C h1 h2) (hb C h1 h2)
theorem tyS.parts (hL : tyC L) (h : tyS L (tyP a b)) : tyS L a ∧ tyS L b := by
  refine (h (fun v => tyS L v ∧ ∀ a b, v = tyP a b → tyS L a ∧ tyS L b) (fun u hu => ⟨tyS.mem hu, fun a b e => ?_⟩) (fun c d hc hd => ⟨tyS.pair hc.1 hd.1, fun a b e => ?_⟩)).2 a b rfl
  · subst e
    obtain ⟨h1, h2⟩ := hL.2.1 a b hu
    exact ⟨tyS.mem h1, tyS.mem h2⟩
  · obtain ⟨rfl, rfl⟩ := tyP_inj e
    exact ⟨hc.1, hd.1⟩
theorem tyS.func (h : tyS L (tyF a b)) : tyF a b ∈ L := by
  refine h (fun v => ∀ a b, v = tyF a b → v ∈ L) (fun u hu _ _ _ => hu) (fun c d _ _ a b e => ?_) a b rfl
  exact absurd (ty_mk_inj e).1 (by decide)
theorem tyS.ok (hok : ∀ u ∈ L, tyok u) (h : tyS L t) : tyok t := h tyok hok (fun a b _ _ => Or.inr (Or.inl ⟨a, b, rfl⟩))
/-- typing meets no other -/
theorem pT_S {K A X Y Z : Nat → Int32} (hL : tyC L) : ∀ (n : Nat) (env : List Ty) (e : Nat) (t : Ty), (∀ u ∈ env, tyS L u) → pT K A X Y Z L n env e t → tyS L t
  | 0, _, _, _, _, h => h.elim
  | n + 1, env, e, t, he, h => by
    have ih := pT_S (K := K) (A := A) (X := X) (Y := Y) (Z := Z) hL n
    unfold pT at h
    rcases h with ⟨-, h⟩ | ⟨-, h⟩ | ⟨-, h, -⟩ | ⟨-, -, h, -⟩ | ⟨-, h, -⟩ | ⟨-, a, h1, -⟩ | ⟨-, a, b, h, h1, h2⟩ | ⟨-, b, h⟩ | ⟨-, a, h⟩
    · rw [h]; exact tyS.mem hL.1
    · exact he t (List.mem_of_getElem? h)
    · rw [h]; exact tyS.mem hL.1
    · exact ih env _ t he h
    · exact tyS.mem (List.mem_of_getElem? h)
    · exact tyS.mem (hL.2.2 a t (ih env _ _ he h1).func).2
    · rw [h]; exact tyS.pair (ih env _ a he h1) (ih env _ b he h2)
    · exact ((ih env _ _ he h).parts hL).1
    · exact ((ih env _ _ he h).parts hL).2
end
theorem tyC_of {L LM : List Ty} {Mc Mm : sm_M} (h : rlT L LM Mc Mm) : tyC L := by
  have part : ∀ {i m : Nat} {a b : Ty}, L[i]? = some (ty_mk m (some a) (some b) none) → a ∈ L ∧ b ∈ L := by
    intro i m a b hi
    obtain ⟨-, -, h1, h2, -⟩ := h.1.row hi
    have g : ∀ {x : Int32} {t : Ty}, ty_pr L x (some t) → t ∈ L := by
      intro x t hx
      rcases hx with ⟨z, -⟩ | ⟨i, u, z, hu, -⟩
      · cases z
      · rw [Option.some.inj z]; exact List.mem_of_getElem? hu
    exact ⟨g h1, g h2⟩
  refine ⟨List.mem_of_getElem? h.2.2.1, fun a b hm => ?_, fun a b hm => ?_⟩
  · obtain ⟨i, hi⟩ := List.getElem?_of_mem hm
    exact part hi
  · obtain ⟨i, hi⟩ := List.getElem?_of_mem hm
    exact part hi
