/-! compile: several instructions, one behind the other -/
noncomputable def cPuts (p : Nat) (D : sm_D) (F : sm_M → Option sm_S) : List (Nat × Int32 × Int32 × Int32 × Int32) → sm_M → Option sm_S
  | [], M => F M
  | i :: is, M => sm_bi (sm_ga [p] gC (jC_put p (nI i.1) i.2.1 i.2.2.1 i.2.2.2.1 D M)) (fun _ E M' => sm_dq E D (cPuts p D F is M'))
noncomputable def rPuts (G : sm_M → Option sm_S) : List (Nat × Int32 × Int32 × Int32 × Int32) → sm_M → Option sm_S
  | [], M => G M
  | i :: is, M => sm_bi (jR_emit (nI i.1) i.2.1 i.2.2.1 i.2.2.2.2 [] M) (fun _ E M' => sm_dq E [] (rPuts G is M'))
def cI4 : List (Nat × Int32 × Int32 × Int32 × Int32) → Nat
  | [] => 0
  | i :: is => (if i.1 = 4 then 1 else 0) + cI4 is
def wI (LC LR : List Ty) (i : Nat × Int32 × Int32 × Int32 × Int32) : Prop := i.1 ≤ 12 ∧ (zf (fm i.1 0) i.2.1 = i.2.1 ∧ zf (fm i.1 1) i.2.2.1 = i.2.2.1 ∧ zf (fm i.1 2) i.2.2.2.1 = i.2.2.2.1) ∧ frm (nI i.1) i.2.1 i.2.2.1 i.2.2.2.2 ∧ (i.1 ≠ 7 → i.2.2.2.2 = i.2.2.2.1) ∧ (i.1 = 7 → ∃ w, ty_pr LC i.2.2.2.1 (some w) ∧ ty_pr LR i.2.2.2.2 (some w) ∧ wOk w)
def wJ (LC : List Ty) (i : Nat × Int32 × Int32 × Int32 × Int32) : Prop := i.1 ≤ 12 ∧ (i.1 = 7 → ∃ w, ty_pr LC i.2.2.2.1 (some w))
section
variable {p nE d0 d1 d2 d3 : Nat} {B Bm : sm_M} {L LM0 FR : List Ty} {k0 : Nat} {Ex PB : List Nat} {nC nB cur nV nD N mV k r v e m m' n h kd s1 : Nat} {LC LR : List Ty} {W : Nat → Ty} {A : Nat → Option Ty} {TE : Nat → Ty} {BD : Nat → List Ty} {Mc Mm Mc' Mm' M : sm_M} {D : sm_D} {a b c x x' y y' z z' : Int32} {t ta tb : Ty} {o1 o2 o3 : Option Ty}
theorem c_putsO (hg : [p] ∈ gC) (hp : 40 ≤ p) : ∀ (is : List (Nat × Int32 × Int32 × Int32 × Int32)) (M : sm_M), wOc p B L LC N mV M → (∀ i, i ∈ is → wJ LC i) → ∃ M', (∀ F : sm_M → Option sm_S, cPuts p D F is M = F M') ∧ wOc p B L LC N mV M'
  | [], M, hO, _ => ⟨M, fun _ => rfl, hO⟩
  | i :: is, M, hO, hI => by
    obtain ⟨h1, h2⟩ := hI i (List.mem_cons_self ..)
    obtain ⟨M1, e1, e2⟩ := c_putO (D := D) (a := i.2.1) (b := i.2.2.1) (c := i.2.2.2.1) hg hp hO h1 h2
    obtain ⟨M2, f1, f2⟩ := c_putsO hg hp is M1 e2 (fun j hj => hI j (List.mem_cons_of_mem _ hj))
    refine ⟨M2, fun F => ?_, f2⟩
    show sm_bi (sm_ga [p] gC (jC_put p (nI i.1) i.2.1 i.2.2.1 i.2.2.2.1 D M)) _ = _
    rw [ga_in hg, e1, bi_some, dq_self]
    exact f1 F
theorem cOv.puts {is : List (Nat × Int32 × Int32 × Int32 × Int32)} {F : sm_M → Option sm_S} {N2 : Nat} (hg : [p] ∈ gC) (hp : 40 ≤ p) (hO : wOc p B L LC N mV M) (hI : ∀ i, i ∈ is → wJ LC i) (hF : ∀ M, wOc p B L LC N mV M → cOv p B L LC N2 mV D (F M)) : cOv p B L LC N2 mV D (cPuts p D F is M) := by
  obtain ⟨M', e1, e2⟩ := c_putsO (D := D) hg hp is M hO hI
  rw [e1]
  exact hF M' e2
theorem r_putsO {G : sm_M → Option sm_S} (h : M 1 47 = 1) : ∀ is : List (Nat × Int32 × Int32 × Int32 × Int32), rPuts G is M = G M
  | [] => rfl
  | i :: is => by
    show sm_bi (jR_emit (nI i.1) i.2.1 i.2.2.1 i.2.2.2.2 [] M) _ = _
    rw [em_ov h, bi_some, dq_self]
    exact r_putsO h is
theorem w_puts (hg : [p] ∈ gC) (hp : 40 ≤ p) (hLN : LC.length ≤ N) : ∀ (is : List (Nat × Int32 × Int32 × Int32 × Int32)) (nC : Nat) (W : Nat → Ty) (Mc Mm : sm_M), wS p nE B Bm L LM0 FR k0 Ex PB nC nB cur nV nD LC LR W A TE BD Mc Mm → (∀ i, i ∈ is → wI LC LR i) →
    (∃ (W2 : Nat → Ty) (Mc2 Mm2 : sm_M), (∀ F : sm_M → Option sm_S, cPuts p D F is Mc = F Mc2) ∧ (∀ G : sm_M → Option sm_S, rPuts G is Mm = G Mm2) ∧ wS p nE B Bm L LM0 FR k0 Ex PB (nC + is.length) nB cur nV nD LC LR W2 A TE BD Mc2 Mm2 ∧ ct4 (Mm2 29) (nC + is.length) = ct4 (Mm 29) nC + cI4 is ∧ (∀ q, 35 < q → Mm2 q = Mm q) ∧ ∀ j, j ≠ 39 → Mm2 1 j = Mm 1 j) ∨
    (∃ (Mc2 Mo : sm_M), (∀ F : sm_M → Option sm_S, cPuts p D F is Mc = F Mc2) ∧ wOc p B L LC N nV Mc2 ∧ (∀ G : sm_M → Option sm_S, rPuts G is Mm = G Mo) ∧ wOr Bm LM0 LR Mo ∧ (∀ q, 35 < q → Mo q = Mm q) ∧ ∀ j, j ≠ 39 → j ≠ 47 → Mo 1 j = Mm 1 j)
  | [], nC, W, Mc, Mm, hS, _ => Or.inl ⟨W, Mc, Mm, fun _ => rfl, fun _ => rfl, hS, rfl, fun _ _ => rfl, fun _ _ => rfl⟩
  | i :: is, nC, W, Mc, Mm, hS, hI => by
    obtain ⟨h1, ⟨z0, z1, z2⟩, hf, h7, hw⟩ := hI i (List.mem_cons_self ..)
    rcases w_put (D := D) (a := i.2.1) (b := i.2.2.1) (c := i.2.2.2.1) (c' := i.2.2.2.2) hg hp hS hLN h1 z0 z1 z2 hf h7 hw with ⟨W', Mc1, Mm1, e1, e2, e3, e4, e5, e6⟩ | ⟨Mc1, e1, e2, e3, e4⟩
    · have hc : ∀ F : sm_M → Option sm_S, cPuts p D F (i :: is) Mc = cPuts p D F is Mc1 := fun F => by
        show sm_bi (sm_ga [p] gC (jC_put p (nI i.1) i.2.1 i.2.2.1 i.2.2.2.1 D Mc)) _ = _
        rw [ga_in hg, e1, bi_some, dq_self]
      have hr : ∀ G : sm_M → Option sm_S, rPuts G (i :: is) Mm = rPuts G is Mm1 := fun G => by
        show sm_bi (jR_emit (nI i.1) i.2.1 i.2.2.1 i.2.2.2.2 [] Mm) _ = _
        rw [e2, bi_some, dq_self]
      rcases w_puts hg hp hLN is (nC + 1) W' Mc1 Mm1 e3 (fun j hj => hI j (List.mem_cons_of_mem _ hj)) with ⟨W2, Mc2, Mm2, f1, f2, f3, f4, f5, f6⟩ | ⟨Mc2, Mo, f1, f2, f3, f4, f5, f6⟩
      · have el : nC + (i :: is).length = nC + 1 + is.length := by rw [List.length_cons]; omega
        refine Or.inl ⟨W2, Mc2, Mm2, fun F => by rw [hc]; exact f1 F, fun G => by rw [hr]; exact f2 G, by rw [el]; exact f3, ?_, fun q hq => by rw [f5 q hq, e5 q hq], fun j hj => by rw [f6 j hj, e6 j hj]⟩
        rw [el, f4, e4]
        show _ = ct4 (Mm 29) nC + ((if i.1 = 4 then 1 else 0) + cI4 is)
        omega
      · exact Or.inr ⟨Mc2, Mo, fun F => by rw [hc]; exact f1 F, f2, fun G => by rw [hr]; exact f3 G, f4, fun q hq => by rw [f5 q hq, e5 q hq], fun j hj hj' => by rw [f6 j hj hj', e6 j hj]⟩
    · obtain ⟨Mc2, g1, g2⟩ := c_putsO (D := D) hg hp is Mc1 e2 (fun j hj => by
        obtain ⟨b1, -, -, -, b5⟩ := hI j (List.mem_cons_of_mem _ hj)
        exact ⟨b1, fun q => by obtain ⟨w, hw, -⟩ := b5 q; exact ⟨w, hw⟩⟩)
      refine Or.inr ⟨Mc2, sm_up Mm 1 47 1, fun F => ?_, g2, fun G => ?_, e4, fun q hq => up_ne (by omega), fun j _ hj => up_as hj⟩
      · show sm_bi (sm_ga [p] gC (jC_put p (nI i.1) i.2.1 i.2.2.1 i.2.2.2.1 D Mc)) _ = _
        rw [ga_in hg, e1, bi_some, dq_self]
        exact g1 F
      · show sm_bi (jR_emit (nI i.1) i.2.1 i.2.2.1 i.2.2.2.2 [] Mm) _ = _
        rw [e3, bi_some, dq_self]
        exact r_putsO up_at is
/-- the reference takes a value off, then goes on -/
theorem r_popb {G : sm_M → Option sm_S} : sm_bi (jR_pop [] M) (fun _ E M' => sm_dq E [] (G M')) = rPuts (fun M1 => sm_ck (M1 1 51) 1200 (G (sm_up M1 1 51 (M1 40 (Int32.toNatClampNeg (M1 1 51)))))) [(5, 1, 1, 0, 0)] M := by
  show sm_bi (jR_pop [] M) _ = sm_bi (jR_emit 5 1 1 0 [] M) _
  unfold jR_pop
  cases jR_emit 5 1 1 0 [] M with
  | none => rfl
  | some s =>
    obtain ⟨x, E, M1⟩ := s
    rw [bi_some, bi_some]
    by_cases hE : E = []
    · subst hE
      rw [dq_self, dq_self]
      show _ = sm_ck (M1 1 51) 1200 (G (sm_up M1 1 51 (M1 40 (Int32.toNatClampNeg (M1 1 51)))))
      unfold sm_ck
      by_cases q : (0 ≤ (M1 1 51).toInt ∧ (M1 1 51).toInt < ((1200 : Nat) : Int))
      · rw [if_pos q, if_pos q]
        simp only [sm_wr]
        rw [bi_some, dq_self]
      · rw [if_neg q, if_neg q]
        rfl
    · unfold sm_dq
      rw [if_neg hE, if_neg hE]
      rfl
/-- the reference looks a type up where nothing fits any more -/
theorem r_findO (hO : wOr Bm LM0 LR M) (hl : LR.length < 3000) (hn : n < 5) (h1 : ty_pr LR x o1) (h2 : ty_pr LR y o2) (h3 : ty_pr LR z o3) : ∃ w K M', jR_find (nI n) x y z [] M = some (w, [], M') ∧ ty_pr (LR ++ K) w (some (ty_mk n o1 o2 o3)) ∧ wOr Bm LM0 (LR ++ K) M' ∧ (∀ q, 6 < q → M' q = M q) ∧ (∀ j, j ≠ 1 → M' 1 j = M 1 j) ∧ K.length ≤ 1 := by
  obtain ⟨K0, hK0⟩ := hO.2.1
  rcases r_find (D := []) hO.1 hn h1 h2 h3 hl with ⟨q, hq, hj⟩ | ⟨hno, M2, hj, hT, ho1, ho⟩
  · exact ⟨nI q, [], M, hj, by rw [List.append_nil]; exact Or.inr ⟨q, _, rfl, hq, rfl⟩, by rw [List.append_nil]; exact hO, fun _ _ => rfl, fun _ _ => rfl, Nat.zero_le _⟩
  · exact ⟨_, [_], M2, hj, Or.inr ⟨LR.length, _, rfl, by rw [List.getElem?_append_right (Nat.le_refl _), Nat.sub_self]; rfl, rfl⟩, ⟨hT, ⟨K0 ++ [_], by rw [hK0, List.append_assoc]⟩, by rw [ho1 47 (by decide)]; exact hO.2.2.1, hO.2.2.2.of (fun q hq => ho q (by omega)) (fun j a _ _ => ho1 j a)⟩, ho, ho1, Nat.le_refl _⟩
end
