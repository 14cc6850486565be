/-! the reference's typeOf -/
theorem pT_cg {K A X Y Z K' A' X' Y' Z' : Nat → Int32} {L : List Ty} {nE : Nat} (hq : ∀ i, i < nE → K' i = K i ∧ A' i = A i ∧ X' i = X i ∧ Y' i = Y i ∧ Z' i = Z i) (hP : ∀ i, i < nE → ∃ k, k ≤ 10 ∧ K i = nI k ∧ (0 < tPn k → xN X i < nE) ∧ (1 < tPn k → xN Y i < nE) ∧ (2 < tPn k → xN Z i < nE)) : ∀ (n : Nat) (env : List Ty) (e : Nat) (t : Ty), e < nE → (pT K' A' X' Y' Z' L n env e t ↔ pT K A X Y Z L n env e t)
  | 0, _, _, _, _ => Iff.rfl
  | n + 1, env, e, t, he => by
    have ih := pT_cg (L := L) hq hP n
    obtain ⟨k, k10, hk, p1, p2, p3⟩ := hP e he
    obtain ⟨q1, q2, q3, q4, q5⟩ := hq e he
    have x2 : xN A' e = xN A e := by unfold xN; rw [q2]
    have x3 : xN X' e = xN X e := by unfold xN; rw [q3]
    have x4 : xN Y' e = xN Y e := by unfold xN; rw [q4]
    have x5 : xN Z' e = xN Z e := by unfold xN; rw [q5]
    rw [pT_k (q1.trans hk) k10, pT_k hk k10, x2, x3, x4, x5]
    have i1 : 0 < tPn k → ∀ (env : List Ty) (t : Ty), pT K' A' X' Y' Z' L n env (xN X e) t ↔ pT K A X Y Z L n env (xN X e) t := fun q env t => ih env _ t (p1 q)
    have i2 : 1 < tPn k → ∀ (env : List Ty) (t : Ty), pT K' A' X' Y' Z' L n env (xN Y e) t ↔ pT K A X Y Z L n env (xN Y e) t := fun q env t => ih env _ t (p2 q)
    have i3 : 2 < tPn k → ∀ (env : List Ty) (t : Ty), pT K' A' X' Y' Z' L n env (xN Z e) t ↔ pT K A X Y Z L n env (xN Z e) t := fun q env t => ih env _ t (p3 q)
    match k, k10 with
    | 0, _ => simp
    | 1, _ => simp
    | 2, _ => simp [i1 (by decide), i2 (by decide)]
    | 3, _ => simp [i1 (by decide), i2 (by decide)]
    | 4, _ => simp [i1 (by decide), i2 (by decide)]
    | 5, _ => simp [i1 (by decide), i2 (by decide), i3 (by decide)]
    | 6, _ => simp [i1 (by decide)]
    | 7, _ => simp [i1 (by decide), i2 (by decide)]
    | 8, _ => simp [i1 (by decide), i2 (by decide)]
    | 9, _ => simp [i1 (by decide)]
    | 10, _ => simp [i1 (by decide)]
    | k + 11, hk11 => omega
theorem zH_of {L LM : List Ty} {Mc Mm : sm_M} {nE : Nat} (hT : rlT L LM Mc Mm) (hq : ∀ i, i < nE → Mm 12 i = Mc 10 i ∧ Mm 13 i = Mc 11 i ∧ Mm 14 i = Mc 12 i ∧ Mm 15 i = Mc 13 i ∧ Mm 16 i = Mc 14 i ∧ Mm 17 i = Mc 15 i) (hI : ∀ i, i < nE → exI L Mc i) : ∀ i, i < nE → zH L LM Mm i := by
  intro i hi
  obtain ⟨q1, q2, q3, q4, q5, q6⟩ := hq i hi
  obtain ⟨k, h, a1, a2, a3, a4, a5, px, py, pz, pv, pf⟩ := hI i hi
  have pp : ∀ {x : Int32}, exP Mc i h x → zE Mm i h x := fun ⟨e, g, b1, b2, b3, b4⟩ => ⟨e, g, b1, b2, by rw [(hq e (by omega)).2.2.2.2.2]; exact b3, b4⟩
  refine ⟨k, h, a1, q1.trans a2, a3, a4, q6.trans a5, fun z => by rw [q3]; exact pp (px z), fun z => by rw [q4]; exact pp (py z), fun z => by rw [q5]; exact pp (pz z), fun z => by rw [q2]; exact pv z, fun z => ?_⟩
  obtain ⟨t, a, b, e1, e2⟩ := pf z
  obtain ⟨r, hr, h7, -, h30⟩ := r_numI hT e2
  exact ⟨t, r, a, b, q2.trans e1, e2, h30, h7, hr⟩
theorem r_typeOf {L LM : List Ty} {Mc Mm : sm_M} (hT : rlT L LM Mc Mm) {nE : Nat} (hE : nE ≤ 40) (hq : ∀ i, i < nE → Mm 12 i = Mc 10 i ∧ Mm 13 i = Mc 11 i ∧ Mm 14 i = Mc 12 i ∧ Mm 15 i = Mc 13 i ∧ Mm 16 i = Mc 14 i ∧ Mm 17 i = Mc 15 i) (hI : ∀ i, i < nE → exI L Mc i) {e : Nat} (he : e < nE) : ∃ (x : Int32) (K : List Ty) (M' : sm_M), jR_typeOf (nI e) [] Mm = some (x, [], M') ∧ tabM M' (LM ++ K) ∧ zG M' Mm ∧ yR (pT (Mc 10) (Mc 11) (Mc 12) (Mc 13) (Mc 14) L 8 [] e) (LM ++ K) x := by
  obtain ⟨a1, a2, a3, a4, a5, a6, a7, a8, a9, a10⟩ := id hT
  have hz := zH_of hT hq hI
  have p8 : pw 8 = 729 := rfl
  have hcg : ∀ t, pT (Mm 12) (Mm 13) (Mm 14) (Mm 15) (Mm 16) L 8 [] e t ↔ pT (Mc 10) (Mc 11) (Mc 12) (Mc 13) (Mc 14) L 8 [] e t := fun t => pT_cg (fun i hi => ⟨(hq i hi).1, (hq i hi).2.1, (hq i hi).2.2.1, (hq i hi).2.2.2.1, (hq i hi).2.2.2.2.1⟩) (fun i hi => by
    obtain ⟨k, h, b1, b2, -, -, -, px, py, pz, -⟩ := hI i hi
    have pp : ∀ {f : Nat → Int32}, exP Mc i h (f i) → xN f i < nE := fun {f} ⟨e', g, c1, c2, _⟩ => by
      have : xN f i = e' := by unfold xN; rw [c2]; exact nI_clamp (by omega)
      omega
    exact ⟨k, b1, b2, fun z => pp (px z), fun z => pp (py z), fun z => pp (pz z)⟩) 8 [] e t he
  have hg : ∃ g : Nat, Mm 17 e = nI g ∧ g ≤ 8 := by
    obtain ⟨k, h, -, -, -, h8, h15, -⟩ := hz e he
    exact ⟨h, h15, h8⟩
  have o : ∀ q, q ≠ 1 → sm_up (sm_up Mm 1 20 0) 1 21 0 q = Mm q := fun q h => by rw [up_ne h, up_ne h]
  have o1 : ∀ j, j ≠ 20 → j ≠ 21 → sm_up (sm_up Mm 1 20 0) 1 21 0 1 j = Mm 1 j := fun j h h' => by rw [up_as h', up_as h]
  have hX : zX Mm LM LM [] 0 (sm_up (sm_up Mm 1 20 0) 1 21 0) := ⟨tabM_o (fun q h _ => o q (by omega)) (o1 1 (by decide) (by decide)) a5, ⟨[], (List.append_nil LM).symm⟩, a7, by rw [up_as (by decide), up_at]; exact nI_0.symm, by rw [up_at]; exact nI_0.symm, fun j t hj => by simp at hj, fun q h _ => o q (by omega)⟩
  have g0 : zG (bgF (sm_up (sm_up Mm 1 20 0) 1 21 0) 0 (nI e)) Mm := (bgF_F (m := 0)).1.trans ⟨fun q h _ => o q (by omega), fun q h => o q (by omega), fun j _ h h' _ => o1 j h h'⟩
  have hb : jR_typeOf (nI e) [] Mm = jR_typeOf_17 1 [] (bgF (sm_up (sm_up Mm 1 20 0) 1 21 0) 0 (nI e)) := by
    simp only [jR_typeOf, sm_wr]
    rw [z_begin (d := 0) (by decide) hX.2.2.2.1, bi_some, dq_self]
  rcases z_all hE (tyC_of hT) (fun u hu => (a4 u hu).1) hz 8 [] e (bgF (sm_up (sm_up Mm 1 20 0) 1 21 0) 0 (nI e)) LM 0 (bgF_X hX) (fun u hu => by cases hu) bgF_18 bgF_19 he hg (by decide) (by decide) (by omega) with ⟨t, K, M', h1, h2, h3, h4, h5, h6⟩ | ⟨h1, K, M', h2, h3, h4, h5⟩
  · refine ⟨M' 1 22, K, M', ?_, h3.1, h5.1.trans g0, (yR.of (P := pT (Mm 12) (Mm 13) (Mm 14) (Mm 15) (Mm 16) L 8 [] e) (pT_fn _ _ _) h1 h4).iff hcg⟩
    rw [hb, h2]
    exact z_end1 (by rw [h3.2.2.2.1]; exact nI_0)
  · refine ⟨-1, K, M', ?_, h3, h4.trans g0, (yR.no h1).iff hcg⟩
    rw [hb, h2]
    exact z_end0
