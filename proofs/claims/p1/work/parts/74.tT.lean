/-! contracts over the cells of Types alone: by program -/
def gFT : List (List Nat) := [[7, 128]]
theorem gFT_inv {p n : Nat} (h : [p, n] ∈ gFT) : p = 7 ∧ n = 128 := by simpa [gFT] using h
-- jX_fill
def lh173_5T (p L : Nat) (D : sm_D) (R : sm_S) (s : Int32 × Int32 × Int32 × sm_M) : Prop := sm_WJ smT smCl smSa shT f173 0 5 [.ref p, .int (s.1), .int (s.2.1), .int (s.2.2.1)] [] D (s.2.2.2) R
def gd173_5T (p L : Nat) (D : sm_D) (R : sm_S) (v : (Int32 × Int32 × Int32 × sm_M) ⊕ sm_S) : Prop := match v with
  | .inl s => lh173_5T p L D R s
  | .inr r => r = R
noncomputable def lf173_5T (p L : Nat) (D : sm_D) : Nat → List Value → List Value → sm_D → sm_M → Option ((Int32 × Int32 × Int32 × sm_M) ⊕ sm_S) := fun pc ls st D' M =>
  if pc = 5 then (match ls, st with
    | [.ref rl0, .int bl1, .int bl2, .int bl3], [] => (sm_eqp rl0 p (sm_dq D' D (some (.inl (bl1, bl2, bl3, M)))))
    | _, _ => none)
  else none
theorem ll173_5T (p L : Nat) (hg : [p, L] ∈ gFT) (D : sm_D) {R : sm_S} : ∀ (pc : Nat) (ls st : List Value) (D' : sm_D) (M : sm_M) (v : (Int32 × Int32 × Int32 × sm_M) ⊕ sm_S), (lf173_5T p L D) pc ls st D' M = some v → (gd173_5T p L D R) v → sm_WJ smT smCl smSa shT f173 0 pc ls st D' M R := by
  intro pc ls st D' M v h hv
  unfold lf173_5T at h
  by_cases hp0 : pc = 5
  · subst hp0
    rw [if_pos (show (5 : Nat) = 5 from rfl)] at h
    split at h
    · skip
      replace h := sm_eqp_inv h
      obtain ⟨he, h⟩ := h
      subst he
      replace h := sm_dq_inv h
      obtain ⟨he, h⟩ := h
      subst he
      cases h
      exact hv
    · cases h
  · rw [if_neg hp0] at h
    cases h
set_option maxRecDepth 20000 in
set_option maxHeartbeats 4000000 in
theorem wc173_5T (p L : Nat) (hg : [p, L] ∈ gFT) (D : sm_D) {l1 l2 l3 : Int32} {M : sm_M} {R : sm_S} {v : (Int32 × Int32 × Int32 × sm_M) ⊕ sm_S} (h : jX_fill_5_c p L l1 l2 l3 D M = some v) (hv : (gd173_5T p L D R) v) : sm_WJ smT smCl smSa shT f173 0 5 [.ref p, .int l1, .int l2, .int l3] [] D M R := by
  rcases gFT_inv hg with ⟨rfl, rfl⟩
  have e : jX_fill_5_c 7 128 l1 l2 l3 D M = (sm_run shT smSa sm_nocal c173 false (fun a D M => some (.inr (a, D, M))) (lf173_5T 7 128 D) 20 (c173.drop 5) [.ref 7, .int l1, .int l2, .int l3] [] D M : Option ((Int32 × Int32 × Int32 × sm_M) ⊕ sm_S)) := rfl
  exact sm_blk (ρ := (Int32 × Int32 × Int32 × sm_M) ⊕ sm_S) (gd := (gd173_5T 7 128 D R)) (kx := 173) (i := 5) smVT rfl (by decide) (sm_nocal_ok smT smCl smP smSa shT 0) (fun a D M v e1 e2 => by cases e1; exact e2.symm) (ll173_5T 7 128 (by decide) D) rfl (e.symm.trans h) hv
theorem w173_5T (p L : Nat) (hg : [p, L] ∈ gFT) {l1 l2 l3 : Int32} {D : sm_D} {M : sm_M} {R : sm_S} (h : jX_fill_5 p L l1 l2 l3 D M = some R) : sm_WJ smT smCl smSa shT f173 0 5 [.ref p, .int l1, .int l2, .int l3] [] D M R := by
  have hh : lh173_5T p L D R (l1, l2, l3, M) := by
    refine sm_lp_ind (b := jX_fill_5_b p L D) (r := R) (lh173_5T p L D R) ?_ h
    intro s v hb h1 h2
    obtain ⟨z0, z1, z2, M1⟩ := s
    have hv : gd173_5T p L D R v := by
      cases v with
      | inl s' => exact h1 s' rfl
      | inr r => exact h2 r rfl
    exact wc173_5T p L hg D hb hv
  exact hh
noncomputable def lf173_0T (p L : Nat) (D : sm_D) : Nat → List Value → List Value → sm_D → sm_M → Option (sm_S) := fun pc ls st D' M =>
  if pc = 5 then (match ls, st with
    | [.ref rl0, .int bl1, .int bl2, .int bl3], [] => (sm_eqp rl0 p (jX_fill_5 p L bl1 bl2 bl3 D' M))
    | _, _ => none)
  else none
theorem ll173_0T (p L : Nat) (hg : [p, L] ∈ gFT) (D : sm_D) {R : sm_S} : ∀ (pc : Nat) (ls st : List Value) (D' : sm_D) (M : sm_M) (v : sm_S), (lf173_0T p L D) pc ls st D' M = some v → (fun v => v = R) v → sm_WJ smT smCl smSa shT f173 0 pc ls st D' M R := by
  intro pc ls st D' M v h hv
  unfold lf173_0T at h
  by_cases hp0 : pc = 5
  · subst hp0
    rw [if_pos (show (5 : Nat) = 5 from rfl)] at h
    split at h
    · skip
      replace h := sm_eqp_inv h
      obtain ⟨he, h⟩ := h
      subst he
      have hv : v = R := hv
      subst hv
      exact w173_5T _ _ hg h
    · cases h
  · rw [if_neg hp0] at h
    cases h
set_option maxRecDepth 20000 in
set_option maxHeartbeats 4000000 in
theorem we173T (p L : Nat) (hg : [p, L] ∈ gFT) {l1 : Int32} {D : sm_D} {M : sm_M} {R : sm_S} (h : jX_fill p L l1 D M = some R) : sm_WJ smT smCl smSa shT f173 0 0 [.ref p, .int l1, .retAddr 0, .retAddr 0] [] D M R := by
  rcases gFT_inv hg with ⟨rfl, rfl⟩
  have e : jX_fill 7 128 l1 D M = (sm_run shT smSa sm_nocal c173 false (fun a D M => some (a, D, M)) (lf173_0T 7 128 D) 20 (c173.drop 0) [.ref 7, .int l1, .retAddr 0, .retAddr 0] [] D M : Option (sm_S)) := rfl
  exact sm_blk (ρ := sm_S) (gd := (fun v => v = R)) (kx := 173) (i := 0) smVT rfl (by decide) (sm_nocal_ok smT smCl smP smSa shT 0) (fun a D M v e1 e2 => by cases e1; exact e2.symm) (ll173_0T 7 128 (by decide) D) rfl (e.symm.trans h) rfl
theorem m173T {p L : Nat} (hg : [p, L] ∈ gFT) {l1 : Int32} {D : sm_D} {M : sm_M} {R : sm_S} (h : jX_fill p L l1 D M = some R) : sm_MJ smT smCl smSa shT f173 0 [.ref p, .int l1] D M R :=
  sm_met (by decide) (Nat.le_of_ble_eq_true rfl) (List.all_eq_true.mp rfl) (we173T p L hg h)

-- jT_bucket
set_option maxRecDepth 20000 in
set_option maxHeartbeats 4000000 in
theorem we163T {l0 l1 l2 l3 : Int32} {D : sm_D} {M : sm_M} {R : sm_S} (h : jT_bucket l0 l1 l2 l3 D M = some R) : sm_WJ smT smCl smSa shT f163 0 0 [.int l0, .int l1, .int l2, .int l3, .retAddr 0] [] D M R := by
  have e : jT_bucket l0 l1 l2 l3 D M = (sm_run shT smSa sm_nocal c163 false (fun a D M => some (a, D, M)) sm_noleaf 27 (c163.drop 0) [.int l0, .int l1, .int l2, .int l3, .retAddr 0] [] D M : Option (sm_S)) := rfl
  exact sm_blk (ρ := sm_S) (gd := (fun v => v = R)) (kx := 163) (i := 0) smVT rfl (by decide) (sm_nocal_ok smT smCl smP smSa shT 0) (fun a D M v e1 e2 => by cases e1; exact e2.symm) (sm_noleaf_ok) rfl (e.symm.trans h) rfl
theorem m163T {l0 l1 l2 l3 : Int32} {D : sm_D} {M : sm_M} {R : sm_S} (h : jT_bucket l0 l1 l2 l3 D M = some R) : sm_MJ smT smCl smSa shT f163 0 [.int l0, .int l1, .int l2, .int l3] D M R :=
  sm_met (by decide) (Nat.le_of_ble_eq_true rfl) (List.all_eq_true.mp rfl) (we163T  h)

-- jT_search
def lh161_11T (D : sm_D) (R : sm_S) (s : Int32 × Int32 × Int32 × Int32 × Int32 × Int32 × sm_M) : Prop := ∀ (g1 : Value), sm_WJ smT smCl smSa shT f161 0 11 [.ref 1, g1, .int (s.1), .int (s.2.1), .int (s.2.2.1), .int (s.2.2.2.1), .int (s.2.2.2.2.1), .int (s.2.2.2.2.2.1)] [] D (s.2.2.2.2.2.2) R
def gd161_11T (D : sm_D) (R : sm_S) (v : (Int32 × Int32 × Int32 × Int32 × Int32 × Int32 × sm_M) ⊕ sm_S) : Prop := match v with
  | .inl s => lh161_11T D R s
  | .inr r => r = R
noncomputable def lf161_75T (D : sm_D) : Nat → List Value → List Value → sm_D → sm_M → Option ((Int32 × Int32 × Int32 × Int32 × Int32 × Int32 × sm_M) ⊕ sm_S) := fun pc ls st D' M =>
  if pc = 11 then (match ls, st with
    | [.ref 1, gl1, .int bl2, .int bl3, .int bl4, .int bl5, .int bl6, .int bl7], [] => (sm_dq D' D (some (.inl (bl2, bl3, bl4, bl5, bl6, bl7, M))))
    | _, _ => none)
  else none
theorem ll161_75T (D : sm_D) {R : sm_S} : ∀ (pc : Nat) (ls st : List Value) (D' : sm_D) (M : sm_M) (v : (Int32 × Int32 × Int32 × Int32 × Int32 × Int32 × sm_M) ⊕ sm_S), (lf161_75T D) pc ls st D' M = some v → (gd161_11T D R) v → sm_WJ smT smCl smSa shT f161 0 pc ls st D' M R := by
  intro pc ls st D' M v h hv
  unfold lf161_75T at h
  by_cases hp0 : pc = 11
  · subst hp0
    rw [if_pos (show (11 : Nat) = 11 from rfl)] at h
    split at h
    · skip
      replace h := sm_dq_inv h
      obtain ⟨he, h⟩ := h
      subst he
      cases h
      exact hv _
    · cases h
  · rw [if_neg hp0] at h
    cases h
set_option maxRecDepth 20000 in
set_option maxHeartbeats 4000000 in
theorem w161_75T (D : sm_D) {l2 l3 l4 l5 l6 l7 : Int32} {g1 : Value} {M : sm_M} {R : sm_S} {v : (Int32 × Int32 × Int32 × Int32 × Int32 × Int32 × sm_M) ⊕ sm_S} (h : jT_search_75 l2 l3 l4 l5 l6 l7 D M = some v) (hv : (gd161_11T D R) v) : sm_WJ smT smCl smSa shT f161 0 75 [.ref 1, g1, .int l2, .int l3, .int l4, .int l5, .int l6, .int l7] [] D M R := by
  have e : jT_search_75 l2 l3 l4 l5 l6 l7 D M = (sm_run shT smSa sm_nocal c161 false (fun a D M => some (.inr (a, D, M))) (lf161_75T D) 54 (c161.drop 40) [.ref 1, g1, .int l2, .int l3, .int l4, .int l5, .int l6, .int l7] [] D M : Option ((Int32 × Int32 × Int32 × Int32 × Int32 × Int32 × sm_M) ⊕ sm_S)) := rfl
  exact sm_blk (ρ := (Int32 × Int32 × Int32 × Int32 × Int32 × Int32 × sm_M) ⊕ sm_S) (gd := (gd161_11T D R)) (kx := 161) (i := 40) smVT rfl (by decide) (sm_nocal_ok smT smCl smP smSa shT 0) (fun a D M v e1 e2 => by cases e1; exact e2.symm) (ll161_75T D) rfl (e.symm.trans h) hv
set_option maxRecDepth 20000 in
set_option maxHeartbeats 4000000 in
theorem w161_90T {g0 g1 g2 g3 g4 g5 g6 g7 : Value} {D : sm_D} {M : sm_M} {R : sm_S} (h : jT_search_90 D M = some R) : sm_WJ smT smCl smSa shT f161 0 90 [g0, g1, g2, g3, g4, g5, g6, g7] [] D M R := by
  have e : jT_search_90 D M = (sm_run shT smSa sm_nocal c161 false (fun a D M => some (a, D, M)) sm_noleaf 54 (c161.drop 47) [g0, g1, g2, g3, g4, g5, g6, g7] [] D M : Option (sm_S)) := rfl
  exact sm_blk (ρ := sm_S) (gd := (fun v => v = R)) (kx := 161) (i := 47) smVT rfl (by decide) (sm_nocal_ok smT smCl smP smSa shT 0) (fun a D M v e1 e2 => by cases e1; exact e2.symm) (sm_noleaf_ok) rfl (e.symm.trans h) rfl
noncomputable def lf161_11T (D : sm_D) : Nat → List Value → List Value → sm_D → sm_M → Option ((Int32 × Int32 × Int32 × Int32 × Int32 × Int32 × sm_M) ⊕ sm_S) := fun pc ls st D' M =>
  if pc = 75 then (match ls, st with
    | [.ref 1, gl1, .int bl2, .int bl3, .int bl4, .int bl5, .int bl6, .int bl7], [] => (sm_dq D' D (jT_search_75 bl2 bl3 bl4 bl5 bl6 bl7 D' M))
    | _, _ => none)
  else if pc = 90 then (match ls, st with
    | [gl0, gl1, gl2, gl3, gl4, gl5, gl6, gl7], [] => (sm_inr (jT_search_90 D' M))
    | _, _ => none)
  else none
theorem ll161_11T (D : sm_D) {R : sm_S} : ∀ (pc : Nat) (ls st : List Value) (D' : sm_D) (M : sm_M) (v : (Int32 × Int32 × Int32 × Int32 × Int32 × Int32 × sm_M) ⊕ sm_S), (lf161_11T D) pc ls st D' M = some v → (gd161_11T D R) v → sm_WJ smT smCl smSa shT f161 0 pc ls st D' M R := by
  intro pc ls st D' M v h hv
  unfold lf161_11T at h
  by_cases hp0 : pc = 75
  · subst hp0
    rw [if_pos (show (75 : Nat) = 75 from rfl)] at h
    split at h
    · skip
      replace h := sm_dq_inv h
      obtain ⟨he, h⟩ := h
      subst he
      exact w161_75T _ h hv
    · cases h
  · rw [if_neg hp0] at h
    by_cases hp0 : pc = 90
    · subst hp0
      rw [if_pos (show (90 : Nat) = 90 from rfl)] at h
      split at h
      · skip
        replace h := sm_inr_inv h
        obtain ⟨r, h, he⟩ := h
        subst he
        have hv : r = R := hv
        subst hv
        exact w161_90T  h
      · cases h
    · rw [if_neg hp0] at h
      cases h
set_option maxRecDepth 20000 in
set_option maxHeartbeats 4000000 in
theorem wc161_11T (D : sm_D) {l2 l3 l4 l5 l6 l7 : Int32} {g1 : Value} {M : sm_M} {R : sm_S} {v : (Int32 × Int32 × Int32 × Int32 × Int32 × Int32 × sm_M) ⊕ sm_S} (h : jT_search_11_c l2 l3 l4 l5 l6 l7 D M = some v) (hv : (gd161_11T D R) v) : sm_WJ smT smCl smSa shT f161 0 11 [.ref 1, g1, .int l2, .int l3, .int l4, .int l5, .int l6, .int l7] [] D M R := by
  have e : jT_search_11_c l2 l3 l4 l5 l6 l7 D M = (sm_run shT smSa sm_nocal c161 false (fun a D M => some (.inr (a, D, M))) (lf161_11T D) 54 (c161.drop 7) [.ref 1, g1, .int l2, .int l3, .int l4, .int l5, .int l6, .int l7] [] D M : Option ((Int32 × Int32 × Int32 × Int32 × Int32 × Int32 × sm_M) ⊕ sm_S)) := rfl
  exact sm_blk (ρ := (Int32 × Int32 × Int32 × Int32 × Int32 × Int32 × sm_M) ⊕ sm_S) (gd := (gd161_11T D R)) (kx := 161) (i := 7) smVT rfl (by decide) (sm_nocal_ok smT smCl smP smSa shT 0) (fun a D M v e1 e2 => by cases e1; exact e2.symm) (ll161_11T D) rfl (e.symm.trans h) hv
theorem w161_11T {l2 l3 l4 l5 l6 l7 : Int32} {g1 : Value} {D : sm_D} {M : sm_M} {R : sm_S} (h : jT_search_11 l2 l3 l4 l5 l6 l7 D M = some R) : sm_WJ smT smCl smSa shT f161 0 11 [.ref 1, g1, .int l2, .int l3, .int l4, .int l5, .int l6, .int l7] [] D M R := by
  have hh : lh161_11T D R (l2, l3, l4, l5, l6, l7, M) := by
    refine sm_lp_ind (b := jT_search_11_b D) (r := R) (lh161_11T D R) ?_ h
    intro s v hb h1 h2
    obtain ⟨z0, z1, z2, z3, z4, z5, M1⟩ := s
    have hv : gd161_11T D R v := by
      cases v with
      | inl s' => exact h1 s' rfl
      | inr r => exact h2 r rfl
    intro g1
    exact wc161_11T D hb hv
  exact hh _
noncomputable def lf161_0T (D : sm_D) : Nat → List Value → List Value → sm_D → sm_M → Option (sm_S) := fun pc ls st D' M =>
  if pc = 11 then (match ls, st with
    | [.ref 1, gl1, .int bl2, .int bl3, .int bl4, .int bl5, .int bl6, .int bl7], [] => (jT_search_11 bl2 bl3 bl4 bl5 bl6 bl7 D' M)
    | _, _ => none)
  else none
theorem ll161_0T (D : sm_D) {R : sm_S} : ∀ (pc : Nat) (ls st : List Value) (D' : sm_D) (M : sm_M) (v : sm_S), (lf161_0T D) pc ls st D' M = some v → (fun v => v = R) v → sm_WJ smT smCl smSa shT f161 0 pc ls st D' M R := by
  intro pc ls st D' M v h hv
  unfold lf161_0T at h
  by_cases hp0 : pc = 11
  · subst hp0
    rw [if_pos (show (11 : Nat) = 11 from rfl)] at h
    split at h
    · skip
      have hv : v = R := hv
      subst hv
      exact w161_11T  h
    · cases h
  · rw [if_neg hp0] at h
    cases h
set_option maxRecDepth 20000 in
set_option maxHeartbeats 4000000 in
theorem we161T {l1 l2 l3 l4 l5 : Int32} {D : sm_D} {M : sm_M} {R : sm_S} (h : jT_search l1 l2 l3 l4 l5 D M = some R) : sm_WJ smT smCl smSa shT f161 0 0 [.ref 1, .int l1, .int l2, .int l3, .int l4, .int l5, .retAddr 0, .retAddr 0] [] D M R := by
  have e : jT_search l1 l2 l3 l4 l5 D M = (sm_run shT smSa sm_nocal c161 false (fun a D M => some (a, D, M)) (lf161_0T D) 54 (c161.drop 0) [.ref 1, .int l1, .int l2, .int l3, .int l4, .int l5, .retAddr 0, .retAddr 0] [] D M : Option (sm_S)) := rfl
  exact sm_blk (ρ := sm_S) (gd := (fun v => v = R)) (kx := 161) (i := 0) smVT rfl (by decide) (sm_nocal_ok smT smCl smP smSa shT 0) (fun a D M v e1 e2 => by cases e1; exact e2.symm) (ll161_0T D) rfl (e.symm.trans h) rfl
theorem m161T {l1 l2 l3 l4 l5 : Int32} {D : sm_D} {M : sm_M} {R : sm_S} (h : jT_search l1 l2 l3 l4 l5 D M = some R) : sm_MJ smT smCl smSa shT f161 0 [.ref 1, .int l1, .int l2, .int l3, .int l4, .int l5] D M R :=
  sm_met (by decide) (Nat.le_of_ble_eq_true rfl) (List.all_eq_true.mp rfl) (we161T  h)

-- jT_sizeOf
set_option maxRecDepth 20000 in
set_option maxHeartbeats 4000000 in
theorem w156_22T {s0 : Int32} {g0 g1 : Value} {D : sm_D} {M : sm_M} {R : sm_S} (h : jT_sizeOf_22 s0 D M = some R) : sm_WJ smT smCl smSa shT f156 0 22 [g0, g1] [.int s0] D M R := by
  have e : jT_sizeOf_22 s0 D M = (sm_run shT smSa sm_nocal c156 false (fun a D M => some (a, D, M)) sm_noleaf 18 (c156.drop 12) [g0, g1] [.int s0] D M : Option (sm_S)) := rfl
  exact sm_blk (ρ := sm_S) (gd := (fun v => v = R)) (kx := 156) (i := 12) smVT rfl (by decide) (sm_nocal_ok smT smCl smP smSa shT 0) (fun a D M v e1 e2 => by cases e1; exact e2.symm) (sm_noleaf_ok) rfl (e.symm.trans h) rfl
noncomputable def lf156_21T (D : sm_D) : Nat → List Value → List Value → sm_D → sm_M → Option (sm_S) := fun pc ls st D' M =>
  if pc = 22 then (match ls, st with
    | [gl0, gl1], [.int bs0] => (jT_sizeOf_22 bs0 D' M)
    | _, _ => none)
  else none
theorem ll156_21T (D : sm_D) {R : sm_S} : ∀ (pc : Nat) (ls st : List Value) (D' : sm_D) (M : sm_M) (v : sm_S), (lf156_21T D) pc ls st D' M = some v → (fun v => v = R) v → sm_WJ smT smCl smSa shT f156 0 pc ls st D' M R := by
  intro pc ls st D' M v h hv
  unfold lf156_21T at h
  by_cases hp0 : pc = 22
  · subst hp0
    rw [if_pos (show (22 : Nat) = 22 from rfl)] at h
    split at h
    · skip
      have hv : v = R := hv
      subst hv
      exact w156_22T  h
    · cases h
  · rw [if_neg hp0] at h
    cases h
set_option maxRecDepth 20000 in
set_option maxHeartbeats 4000000 in
theorem w156_21T {g0 g1 : Value} {D : sm_D} {M : sm_M} {R : sm_S} (h : jT_sizeOf_21 D M = some R) : sm_WJ smT smCl smSa shT f156 0 21 [g0, g1] [] D M R := by
  have e : jT_sizeOf_21 D M = (sm_run shT smSa sm_nocal c156 false (fun a D M => some (a, D, M)) (lf156_21T D) 18 (c156.drop 11) [g0, g1] [] D M : Option (sm_S)) := rfl
  exact sm_blk (ρ := sm_S) (gd := (fun v => v = R)) (kx := 156) (i := 11) smVT rfl (by decide) (sm_nocal_ok smT smCl smP smSa shT 0) (fun a D M v e1 e2 => by cases e1; exact e2.symm) (ll156_21T D) rfl (e.symm.trans h) rfl
noncomputable def lf156_0T (D : sm_D) : Nat → List Value → List Value → sm_D → sm_M → Option (sm_S) := fun pc ls st D' M =>
  if pc = 21 then (match ls, st with
    | [gl0, gl1], [] => (jT_sizeOf_21 D' M)
    | _, _ => none)
  else if pc = 22 then (match ls, st with
    | [gl0, gl1], [.int bs0] => (jT_sizeOf_22 bs0 D' M)
    | _, _ => none)
  else none
theorem ll156_0T (D : sm_D) {R : sm_S} : ∀ (pc : Nat) (ls st : List Value) (D' : sm_D) (M : sm_M) (v : sm_S), (lf156_0T D) pc ls st D' M = some v → (fun v => v = R) v → sm_WJ smT smCl smSa shT f156 0 pc ls st D' M R := by
  intro pc ls st D' M v h hv
  unfold lf156_0T at h
  by_cases hp0 : pc = 21
  · subst hp0
    rw [if_pos (show (21 : Nat) = 21 from rfl)] at h
    split at h
    · skip
      have hv : v = R := hv
      subst hv
      exact w156_21T  h
    · cases h
  · rw [if_neg hp0] at h
    by_cases hp0 : pc = 22
    · subst hp0
      rw [if_pos (show (22 : Nat) = 22 from rfl)] at h
      split at h
      · skip
        have hv : v = R := hv
        subst hv
        exact w156_22T  h
      · cases h
    · rw [if_neg hp0] at h
      cases h
set_option maxRecDepth 20000 in
set_option maxHeartbeats 4000000 in
theorem we156T {l1 : Int32} {D : sm_D} {M : sm_M} {R : sm_S} (h : jT_sizeOf l1 D M = some R) : sm_WJ smT smCl smSa shT f156 0 0 [.ref 1, .int l1] [] D M R := by
  have e : jT_sizeOf l1 D M = (sm_run shT smSa sm_nocal c156 false (fun a D M => some (a, D, M)) (lf156_0T D) 18 (c156.drop 0) [.ref 1, .int l1] [] D M : Option (sm_S)) := rfl
  exact sm_blk (ρ := sm_S) (gd := (fun v => v = R)) (kx := 156) (i := 0) smVT rfl (by decide) (sm_nocal_ok smT smCl smP smSa shT 0) (fun a D M v e1 e2 => by cases e1; exact e2.symm) (ll156_0T D) rfl (e.symm.trans h) rfl
theorem m156T {l1 : Int32} {D : sm_D} {M : sm_M} {R : sm_S} (h : jT_sizeOf l1 D M = some R) : sm_MJ smT smCl smSa shT f156 0 [.ref 1, .int l1] D M R :=
  sm_met (by decide) (Nat.le_of_ble_eq_true rfl) (List.all_eq_true.mp rfl) (we156T  h)

-- jT_append
set_option maxRecDepth 20000 in
set_option maxHeartbeats 4000000 in
theorem we162T {l1 l2 l3 l4 l5 : Int32} {D : sm_D} {M : sm_M} {R : sm_S} (h : jT_append l1 l2 l3 l4 l5 D M = some R) : sm_WJ smT smCl smSa shT f162 0 0 [.ref 1, .int l1, .int l2, .int l3, .int l4, .int l5] [] D M R := by
  have e : jT_append l1 l2 l3 l4 l5 D M = (sm_run shT smSa sm_nocal c162 false (fun a D M => some (a, D, M)) sm_noleaf 51 (c162.drop 0) [.ref 1, .int l1, .int l2, .int l3, .int l4, .int l5] [] D M : Option (sm_S)) := rfl
  exact sm_blk (ρ := sm_S) (gd := (fun v => v = R)) (kx := 162) (i := 0) smVT rfl (by decide) (sm_nocal_ok smT smCl smP smSa shT 0) (fun a D M v e1 e2 => by cases e1; exact e2.symm) (sm_noleaf_ok) rfl (e.symm.trans h) rfl
theorem m162T {l1 l2 l3 l4 l5 : Int32} {D : sm_D} {M : sm_M} {R : sm_S} (h : jT_append l1 l2 l3 l4 l5 D M = some R) : sm_MJ smT smCl smSa shT f162 0 [.ref 1, .int l1, .int l2, .int l3, .int l4, .int l5] D M R :=
  sm_met (by decide) (Nat.le_of_ble_eq_true rfl) (List.all_eq_true.mp rfl) (we162T  h)

-- jT_find
noncomputable def cal159T  : sm_Cal := fun x as D M =>
  if x = 163 then (match as with
    | [.int a0, .int a1, .int a2, .int a3] => (jT_bucket a0 a1 a2 a3 D M)
    | _ => none)
  else if x = 161 then (match as with
    | [.ref 1, .int a1, .int a2, .int a3, .int a4, .int a5] => (jT_search a1 a2 a3 a4 a5 D M)
    | _ => none)
  else if x = 156 then (match as with
    | [.ref 1, .int a1] => (jT_sizeOf a1 D M)
    | _ => none)
  else if x = 162 then (match as with
    | [.ref 1, .int a1, .int a2, .int a3, .int a4, .int a5] => (jT_append a1 a2 a3 a4 a5 D M)
    | _ => none)
  else none
theorem ck159T  : sm_CalOk smT smCl smP smSa shT 1 cal159T := by
  intro x g as D M R hx h
  unfold cal159T at h
  by_cases hx' : x = 163
  · subst hx'
    rw [if_pos (show (163 : Nat) = 163 from rfl)] at h
    cases (show smP[163]? = some f163 from rfl).symm.trans hx
    split at h
    · skip
      exact Or.inl ⟨0, by omega, m163T   h⟩
    · cases h
  · rw [if_neg hx'] at h
    by_cases hx' : x = 161
    · subst hx'
      rw [if_pos (show (161 : Nat) = 161 from rfl)] at h
      cases (show smP[161]? = some f161 from rfl).symm.trans hx
      split at h
      · skip
        exact Or.inl ⟨0, by omega, m161T   h⟩
      · cases h
    · rw [if_neg hx'] at h
      by_cases hx' : x = 156
      · subst hx'
        rw [if_pos (show (156 : Nat) = 156 from rfl)] at h
        cases (show smP[156]? = some f156 from rfl).symm.trans hx
        split at h
        · skip
          exact Or.inl ⟨0, by omega, m156T   h⟩
        · cases h
      · rw [if_neg hx'] at h
        by_cases hx' : x = 162
        · subst hx'
          rw [if_pos (show (162 : Nat) = 162 from rfl)] at h
          cases (show smP[162]? = some f162 from rfl).symm.trans hx
          split at h
          · skip
            exact Or.inl ⟨0, by omega, m162T   h⟩
          · cases h
        · rw [if_neg hx'] at h
          cases h
set_option maxRecDepth 20000 in
set_option maxHeartbeats 4000000 in
theorem w159_39T {l6 : Int32} {g0 g1 g2 g3 g4 g5 : Value} {D : sm_D} {M : sm_M} {R : sm_S} (h : jT_find_39 l6 D M = some R) : sm_WJ smT smCl smSa shT f159 1 39 [g0, g1, g2, g3, g4, g5, .int l6] [] D M R := by
  have e : jT_find_39 l6 D M = (sm_run shT smSa cal159T c159 false (fun a D M => some (a, D, M)) sm_noleaf 58 (c159.drop 21) [g0, g1, g2, g3, g4, g5, .int l6] [] D M : Option (sm_S)) := rfl
  exact sm_blk (ρ := sm_S) (gd := (fun v => v = R)) (kx := 159) (i := 21) smVT rfl (by decide) ck159T (fun a D M v e1 e2 => by cases e1; exact e2.symm) (sm_noleaf_ok) rfl (e.symm.trans h) rfl
noncomputable def lf159_0T (D : sm_D) : Nat → List Value → List Value → sm_D → sm_M → Option (sm_S) := fun pc ls st D' M =>
  if pc = 39 then (match ls, st with
    | [gl0, gl1, gl2, gl3, gl4, gl5, .int bl6], [] => (jT_find_39 bl6 D' M)
    | _, _ => none)
  else none
theorem ll159_0T (D : sm_D) {R : sm_S} : ∀ (pc : Nat) (ls st : List Value) (D' : sm_D) (M : sm_M) (v : sm_S), (lf159_0T D) pc ls st D' M = some v → (fun v => v = R) v → sm_WJ smT smCl smSa shT f159 1 pc ls st D' M R := by
  intro pc ls st D' M v h hv
  unfold lf159_0T at h
  by_cases hp0 : pc = 39
  · subst hp0
    rw [if_pos (show (39 : Nat) = 39 from rfl)] at h
    split at h
    · skip
      have hv : v = R := hv
      subst hv
      exact w159_39T  h
    · cases h
  · rw [if_neg hp0] at h
    cases h
set_option maxRecDepth 20000 in
set_option maxHeartbeats 4000000 in
theorem we159T {l1 l2 l3 l4 : Int32} {D : sm_D} {M : sm_M} {R : sm_S} (h : jT_find l1 l2 l3 l4 D M = some R) : sm_WJ smT smCl smSa shT f159 1 0 [.ref 1, .int l1, .int l2, .int l3, .int l4, .retAddr 0, .retAddr 0] [] D M R := by
  have e : jT_find l1 l2 l3 l4 D M = (sm_run shT smSa cal159T c159 false (fun a D M => some (a, D, M)) (lf159_0T D) 58 (c159.drop 0) [.ref 1, .int l1, .int l2, .int l3, .int l4, .retAddr 0, .retAddr 0] [] D M : Option (sm_S)) := rfl
  exact sm_blk (ρ := sm_S) (gd := (fun v => v = R)) (kx := 159) (i := 0) smVT rfl (by decide) ck159T (fun a D M v e1 e2 => by cases e1; exact e2.symm) (ll159_0T D) rfl (e.symm.trans h) rfl
theorem m159T {l1 l2 l3 l4 : Int32} {D : sm_D} {M : sm_M} {R : sm_S} (h : jT_find l1 l2 l3 l4 D M = some R) : sm_MJ smT smCl smSa shT f159 1 [.ref 1, .int l1, .int l2, .int l3, .int l4] D M R :=
  sm_met (by decide) (Nat.le_of_ble_eq_true rfl) (List.all_eq_true.mp rfl) (we159T  h)
