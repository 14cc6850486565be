/-! the methods' contracts out of their functions: by program -/
def sm_nocal : sm_Cal := fun _ _ _ _ => none
theorem sm_nocal_ok (TT : List Cond) (cls : List vw_C) (P : List sm_I) (sa : sm_Sa) (sh : List sm_Sh) (d : Nat) : sm_CalOk TT cls P sa sh d sm_nocal := fun _ _ _ _ _ _ _ h => by cases h
def sm_noleaf {ρ : Type} : Nat → List Value → List Value → sm_D → sm_M → Option ρ := fun _ _ _ _ _ => none
theorem sm_noleaf_ok {ρ : Type} {gd : ρ → Prop} {TT : List Cond} {cls : List vw_C} {sa : sm_Sa} {sh : List sm_Sh} {f : sm_I} {d : Nat} {R : sm_S} : ∀ (pc : Nat) (ls st : List Value) (D : sm_D) (M : sm_M) (v : ρ), sm_noleaf pc ls st D M = some v → gd v → sm_WJ TT cls sa sh f d pc ls st D M R := fun _ _ _ _ _ _ h => by cases h
-- jT_has
set_option maxRecDepth 20000 in
set_option maxHeartbeats 4000000 in
theorem w150_17 {s0 : Int32} {g0 g1 : Value} {D : sm_D} {M : sm_M} {R : sm_S} (h : jT_has_17 s0 D M = some R) : sm_WJ smT smCl smSa shC f150 0 17 [g0, g1] [.int s0] D M R := by
  have e : jT_has_17 s0 D M = (sm_run shC smSa sm_nocal c150 true (fun a D M => some (a, D, M)) sm_noleaf 15 (c150.drop 9) [g0, g1] [.int s0] D M : Option (sm_S)) := rfl
  exact sm_blk (ρ := sm_S) (gd := (fun v => v = R)) (kx := 150) (i := 9) smVC rfl (by decide) (sm_nocal_ok smT smCl smP smSa shC 0) (fun a D M v e1 e2 => by cases e1; exact e2.symm) (sm_noleaf_ok) rfl (e.symm.trans h) rfl
noncomputable def lf150_16 (D : sm_D) : Nat → List Value → List Value → sm_D → sm_M → Option (sm_S) := fun pc ls st D' M =>
  if pc = 17 then (match ls, st with
    | [gl0, gl1], [.int bs0] => (jT_has_17 bs0 D' M)
    | _, _ => none)
  else none
theorem ll150_16 (D : sm_D) {R : sm_S} : ∀ (pc : Nat) (ls st : List Value) (D' : sm_D) (M : sm_M) (v : sm_S), (lf150_16 D) pc ls st D' M = some v → (fun v => v = R) v → sm_WJ smT smCl smSa shC f150 0 pc ls st D' M R := by
  intro pc ls st D' M v h hv
  unfold lf150_16 at h
  by_cases hp0 : pc = 17
  · subst hp0
    rw [if_pos (show (17 : Nat) = 17 from rfl)] at h
    split at h
    · skip
      have hv : v = R := hv
      subst hv
      exact w150_17  h
    · cases h
  · rw [if_neg hp0] at h
    cases h
set_option maxRecDepth 20000 in
set_option maxHeartbeats 4000000 in
theorem w150_16 {g0 g1 : Value} {D : sm_D} {M : sm_M} {R : sm_S} (h : jT_has_16 D M = some R) : sm_WJ smT smCl smSa shC f150 0 16 [g0, g1] [] D M R := by
  have e : jT_has_16 D M = (sm_run shC smSa sm_nocal c150 true (fun a D M => some (a, D, M)) (lf150_16 D) 15 (c150.drop 8) [g0, g1] [] D M : Option (sm_S)) := rfl
  exact sm_blk (ρ := sm_S) (gd := (fun v => v = R)) (kx := 150) (i := 8) smVC rfl (by decide) (sm_nocal_ok smT smCl smP smSa shC 0) (fun a D M v e1 e2 => by cases e1; exact e2.symm) (ll150_16 D) rfl (e.symm.trans h) rfl
noncomputable def lf150_0 (D : sm_D) : Nat → List Value → List Value → sm_D → sm_M → Option (sm_S) := fun pc ls st D' M =>
  if pc = 16 then (match ls, st with
    | [gl0, gl1], [] => (jT_has_16 D' M)
    | _, _ => none)
  else if pc = 17 then (match ls, st with
    | [gl0, gl1], [.int bs0] => (jT_has_17 bs0 D' M)
    | _, _ => none)
  else none
theorem ll150_0 (D : sm_D) {R : sm_S} : ∀ (pc : Nat) (ls st : List Value) (D' : sm_D) (M : sm_M) (v : sm_S), (lf150_0 D) pc ls st D' M = some v → (fun v => v = R) v → sm_WJ smT smCl smSa shC f150 0 pc ls st D' M R := by
  intro pc ls st D' M v h hv
  unfold lf150_0 at h
  by_cases hp0 : pc = 16
  · subst hp0
    rw [if_pos (show (16 : Nat) = 16 from rfl)] at h
    split at h
    · skip
      have hv : v = R := hv
      subst hv
      exact w150_16  h
    · cases h
  · rw [if_neg hp0] at h
    by_cases hp0 : pc = 17
    · subst hp0
      rw [if_pos (show (17 : Nat) = 17 from rfl)] at h
      split at h
      · skip
        have hv : v = R := hv
        subst hv
        exact w150_17  h
      · cases h
    · rw [if_neg hp0] at h
      cases h
set_option maxRecDepth 20000 in
set_option maxHeartbeats 4000000 in
theorem we150 {l1 : Int32} {D : sm_D} {M : sm_M} {R : sm_S} (h : jT_has l1 D M = some R) : sm_WJ smT smCl smSa shC f150 0 0 [.ref 1, .int l1] [] D M R := by
  have e : jT_has l1 D M = (sm_run shC smSa sm_nocal c150 true (fun a D M => some (a, D, M)) (lf150_0 D) 15 (c150.drop 0) [.ref 1, .int l1] [] D M : Option (sm_S)) := rfl
  exact sm_blk (ρ := sm_S) (gd := (fun v => v = R)) (kx := 150) (i := 0) smVC rfl (by decide) (sm_nocal_ok smT smCl smP smSa shC 0) (fun a D M v e1 e2 => by cases e1; exact e2.symm) (ll150_0 D) rfl (e.symm.trans h) rfl
theorem m150 {l1 : Int32} {D : sm_D} {M : sm_M} {R : sm_S} (h : jT_has l1 D M = some R) : sm_MJ smT smCl smSa shC f150 0 [.ref 1, .int l1] D M R :=
  sm_met (by decide) (Nat.le_of_ble_eq_true rfl) (List.all_eq_true.mp rfl) (we150  h)

-- jT_sizeOf
set_option maxRecDepth 20000 in
set_option maxHeartbeats 4000000 in
theorem w156_22 {s0 : Int32} {g0 g1 : Value} {D : sm_D} {M : sm_M} {R : sm_S} (h : jT_sizeOf_22 s0 D M = some R) : sm_WJ smT smCl smSa shC f156 0 22 [g0, g1] [.int s0] D M R := by
  have e : jT_sizeOf_22 s0 D M = (sm_run shC smSa sm_nocal c156 false (fun a D M => some (a, D, M)) sm_noleaf 18 (c156.drop 12) [g0, g1] [.int s0] D M : Option (sm_S)) := rfl
  exact sm_blk (ρ := sm_S) (gd := (fun v => v = R)) (kx := 156) (i := 12) smVC rfl (by decide) (sm_nocal_ok smT smCl smP smSa shC 0) (fun a D M v e1 e2 => by cases e1; exact e2.symm) (sm_noleaf_ok) rfl (e.symm.trans h) rfl
noncomputable def lf156_21 (D : sm_D) : Nat → List Value → List Value → sm_D → sm_M → Option (sm_S) := fun pc ls st D' M =>
  if pc = 22 then (match ls, st with
    | [gl0, gl1], [.int bs0] => (jT_sizeOf_22 bs0 D' M)
    | _, _ => none)
  else none
theorem ll156_21 (D : sm_D) {R : sm_S} : ∀ (pc : Nat) (ls st : List Value) (D' : sm_D) (M : sm_M) (v : sm_S), (lf156_21 D) pc ls st D' M = some v → (fun v => v = R) v → sm_WJ smT smCl smSa shC f156 0 pc ls st D' M R := by
  intro pc ls st D' M v h hv
  unfold lf156_21 at h
  by_cases hp0 : pc = 22
  · subst hp0
    rw [if_pos (show (22 : Nat) = 22 from rfl)] at h
    split at h
    · skip
      have hv : v = R := hv
      subst hv
      exact w156_22  h
    · cases h
  · rw [if_neg hp0] at h
    cases h
set_option maxRecDepth 20000 in
set_option maxHeartbeats 4000000 in
theorem w156_21 {g0 g1 : Value} {D : sm_D} {M : sm_M} {R : sm_S} (h : jT_sizeOf_21 D M = some R) : sm_WJ smT smCl smSa shC f156 0 21 [g0, g1] [] D M R := by
  have e : jT_sizeOf_21 D M = (sm_run shC smSa sm_nocal c156 false (fun a D M => some (a, D, M)) (lf156_21 D) 18 (c156.drop 11) [g0, g1] [] D M : Option (sm_S)) := rfl
  exact sm_blk (ρ := sm_S) (gd := (fun v => v = R)) (kx := 156) (i := 11) smVC rfl (by decide) (sm_nocal_ok smT smCl smP smSa shC 0) (fun a D M v e1 e2 => by cases e1; exact e2.symm) (ll156_21 D) rfl (e.symm.trans h) rfl
noncomputable def lf156_0 (D : sm_D) : Nat → List Value → List Value → sm_D → sm_M → Option (sm_S) := fun pc ls st D' M =>
  if pc = 21 then (match ls, st with
    | [gl0, gl1], [] => (jT_sizeOf_21 D' M)
    | _, _ => none)
  else if pc = 22 then (match ls, st with
    | [gl0, gl1], [.int bs0] => (jT_sizeOf_22 bs0 D' M)
    | _, _ => none)
  else none
theorem ll156_0 (D : sm_D) {R : sm_S} : ∀ (pc : Nat) (ls st : List Value) (D' : sm_D) (M : sm_M) (v : sm_S), (lf156_0 D) pc ls st D' M = some v → (fun v => v = R) v → sm_WJ smT smCl smSa shC f156 0 pc ls st D' M R := by
  intro pc ls st D' M v h hv
  unfold lf156_0 at h
  by_cases hp0 : pc = 21
  · subst hp0
    rw [if_pos (show (21 : Nat) = 21 from rfl)] at h
    split at h
    · skip
      have hv : v = R := hv
      subst hv
      exact w156_21  h
    · cases h
  · rw [if_neg hp0] at h
    by_cases hp0 : pc = 22
    · subst hp0
      rw [if_pos (show (22 : Nat) = 22 from rfl)] at h
      split at h
      · skip
        have hv : v = R := hv
        subst hv
        exact w156_22  h
      · cases h
    · rw [if_neg hp0] at h
      cases h
set_option maxRecDepth 20000 in
set_option maxHeartbeats 4000000 in
theorem we156 {l1 : Int32} {D : sm_D} {M : sm_M} {R : sm_S} (h : jT_sizeOf l1 D M = some R) : sm_WJ smT smCl smSa shC f156 0 0 [.ref 1, .int l1] [] D M R := by
  have e : jT_sizeOf l1 D M = (sm_run shC smSa sm_nocal c156 false (fun a D M => some (a, D, M)) (lf156_0 D) 18 (c156.drop 0) [.ref 1, .int l1] [] D M : Option (sm_S)) := rfl
  exact sm_blk (ρ := sm_S) (gd := (fun v => v = R)) (kx := 156) (i := 0) smVC rfl (by decide) (sm_nocal_ok smT smCl smP smSa shC 0) (fun a D M v e1 e2 => by cases e1; exact e2.symm) (ll156_0 D) rfl (e.symm.trans h) rfl
theorem m156 {l1 : Int32} {D : sm_D} {M : sm_M} {R : sm_S} (h : jT_sizeOf l1 D M = some R) : sm_MJ smT smCl smSa shC f156 0 [.ref 1, .int l1] D M R :=
  sm_met (by decide) (Nat.le_of_ble_eq_true rfl) (List.all_eq_true.mp rfl) (we156  h)

-- jT_bucket
set_option maxRecDepth 20000 in
set_option maxHeartbeats 4000000 in
theorem we163 {l0 l1 l2 l3 : Int32} {D : sm_D} {M : sm_M} {R : sm_S} (h : jT_bucket l0 l1 l2 l3 D M = some R) : sm_WJ smT smCl smSa shC f163 0 0 [.int l0, .int l1, .int l2, .int l3, .retAddr 0] [] D M R := by
  have e : jT_bucket l0 l1 l2 l3 D M = (sm_run shC smSa sm_nocal c163 false (fun a D M => some (a, D, M)) sm_noleaf 27 (c163.drop 0) [.int l0, .int l1, .int l2, .int l3, .retAddr 0] [] D M : Option (sm_S)) := rfl
  exact sm_blk (ρ := sm_S) (gd := (fun v => v = R)) (kx := 163) (i := 0) smVC rfl (by decide) (sm_nocal_ok smT smCl smP smSa shC 0) (fun a D M v e1 e2 => by cases e1; exact e2.symm) (sm_noleaf_ok) rfl (e.symm.trans h) rfl
theorem m163 {l0 l1 l2 l3 : Int32} {D : sm_D} {M : sm_M} {R : sm_S} (h : jT_bucket l0 l1 l2 l3 D M = some R) : sm_MJ smT smCl smSa shC f163 0 [.int l0, .int l1, .int l2, .int l3] D M R :=
  sm_met (by decide) (Nat.le_of_ble_eq_true rfl) (List.all_eq_true.mp rfl) (we163  h)

-- jT_search
def lh161_11 (D : sm_D) (R : sm_S) (s : Int32 × Int32 × Int32 × Int32 × Int32 × Int32 × sm_M) : Prop := ∀ (g1 : Value), sm_WJ smT smCl smSa shC f161 0 11 [.ref 1, g1, .int (s.1), .int (s.2.1), .int (s.2.2.1), .int (s.2.2.2.1), .int (s.2.2.2.2.1), .int (s.2.2.2.2.2.1)] [] D (s.2.2.2.2.2.2) R
def gd161_11 (D : sm_D) (R : sm_S) (v : (Int32 × Int32 × Int32 × Int32 × Int32 × Int32 × sm_M) ⊕ sm_S) : Prop := match v with
  | .inl s => lh161_11 D R s
  | .inr r => r = R
noncomputable def lf161_75 (D : sm_D) : Nat → List Value → List Value → sm_D → sm_M → Option ((Int32 × Int32 × Int32 × Int32 × Int32 × Int32 × sm_M) ⊕ sm_S) := fun pc ls st D' M =>
  if pc = 11 then (match ls, st with
    | [.ref 1, gl1, .int bl2, .int bl3, .int bl4, .int bl5, .int bl6, .int bl7], [] => (sm_dq D' D (some (.inl (bl2, bl3, bl4, bl5, bl6, bl7, M))))
    | _, _ => none)
  else none
theorem ll161_75 (D : sm_D) {R : sm_S} : ∀ (pc : Nat) (ls st : List Value) (D' : sm_D) (M : sm_M) (v : (Int32 × Int32 × Int32 × Int32 × Int32 × Int32 × sm_M) ⊕ sm_S), (lf161_75 D) pc ls st D' M = some v → (gd161_11 D R) v → sm_WJ smT smCl smSa shC f161 0 pc ls st D' M R := by
  intro pc ls st D' M v h hv
  unfold lf161_75 at h
  by_cases hp0 : pc = 11
  · subst hp0
    rw [if_pos (show (11 : Nat) = 11 from rfl)] at h
    split at h
    · skip
      replace h := sm_dq_inv h
      obtain ⟨he, h⟩ := h
      subst he
      cases h
      exact hv _
    · cases h
  · rw [if_neg hp0] at h
    cases h
set_option maxRecDepth 20000 in
set_option maxHeartbeats 4000000 in
theorem w161_75 (D : sm_D) {l2 l3 l4 l5 l6 l7 : Int32} {g1 : Value} {M : sm_M} {R : sm_S} {v : (Int32 × Int32 × Int32 × Int32 × Int32 × Int32 × sm_M) ⊕ sm_S} (h : jT_search_75 l2 l3 l4 l5 l6 l7 D M = some v) (hv : (gd161_11 D R) v) : sm_WJ smT smCl smSa shC f161 0 75 [.ref 1, g1, .int l2, .int l3, .int l4, .int l5, .int l6, .int l7] [] D M R := by
  have e : jT_search_75 l2 l3 l4 l5 l6 l7 D M = (sm_run shC smSa sm_nocal c161 false (fun a D M => some (.inr (a, D, M))) (lf161_75 D) 54 (c161.drop 40) [.ref 1, g1, .int l2, .int l3, .int l4, .int l5, .int l6, .int l7] [] D M : Option ((Int32 × Int32 × Int32 × Int32 × Int32 × Int32 × sm_M) ⊕ sm_S)) := rfl
  exact sm_blk (ρ := (Int32 × Int32 × Int32 × Int32 × Int32 × Int32 × sm_M) ⊕ sm_S) (gd := (gd161_11 D R)) (kx := 161) (i := 40) smVC rfl (by decide) (sm_nocal_ok smT smCl smP smSa shC 0) (fun a D M v e1 e2 => by cases e1; exact e2.symm) (ll161_75 D) rfl (e.symm.trans h) hv
set_option maxRecDepth 20000 in
set_option maxHeartbeats 4000000 in
theorem w161_90 {g0 g1 g2 g3 g4 g5 g6 g7 : Value} {D : sm_D} {M : sm_M} {R : sm_S} (h : jT_search_90 D M = some R) : sm_WJ smT smCl smSa shC f161 0 90 [g0, g1, g2, g3, g4, g5, g6, g7] [] D M R := by
  have e : jT_search_90 D M = (sm_run shC smSa sm_nocal c161 false (fun a D M => some (a, D, M)) sm_noleaf 54 (c161.drop 47) [g0, g1, g2, g3, g4, g5, g6, g7] [] D M : Option (sm_S)) := rfl
  exact sm_blk (ρ := sm_S) (gd := (fun v => v = R)) (kx := 161) (i := 47) smVC rfl (by decide) (sm_nocal_ok smT smCl smP smSa shC 0) (fun a D M v e1 e2 => by cases e1; exact e2.symm) (sm_noleaf_ok) rfl (e.symm.trans h) rfl
noncomputable def lf161_11 (D : sm_D) : Nat → List Value → List Value → sm_D → sm_M → Option ((Int32 × Int32 × Int32 × Int32 × Int32 × Int32 × sm_M) ⊕ sm_S) := fun pc ls st D' M =>
  if pc = 75 then (match ls, st with
    | [.ref 1, gl1, .int bl2, .int bl3, .int bl4, .int bl5, .int bl6, .int bl7], [] => (sm_dq D' D (jT_search_75 bl2 bl3 bl4 bl5 bl6 bl7 D' M))
    | _, _ => none)
  else if pc = 90 then (match ls, st with
    | [gl0, gl1, gl2, gl3, gl4, gl5, gl6, gl7], [] => (sm_inr (jT_search_90 D' M))
    | _, _ => none)
  else none
theorem ll161_11 (D : sm_D) {R : sm_S} : ∀ (pc : Nat) (ls st : List Value) (D' : sm_D) (M : sm_M) (v : (Int32 × Int32 × Int32 × Int32 × Int32 × Int32 × sm_M) ⊕ sm_S), (lf161_11 D) pc ls st D' M = some v → (gd161_11 D R) v → sm_WJ smT smCl smSa shC f161 0 pc ls st D' M R := by
  intro pc ls st D' M v h hv
  unfold lf161_11 at h
  by_cases hp0 : pc = 75
  · subst hp0
    rw [if_pos (show (75 : Nat) = 75 from rfl)] at h
    split at h
    · skip
      replace h := sm_dq_inv h
      obtain ⟨he, h⟩ := h
      subst he
      exact w161_75 _ h hv
    · cases h
  · rw [if_neg hp0] at h
    by_cases hp0 : pc = 90
    · subst hp0
      rw [if_pos (show (90 : Nat) = 90 from rfl)] at h
      split at h
      · skip
        replace h := sm_inr_inv h
        obtain ⟨r, h, he⟩ := h
        subst he
        have hv : r = R := hv
        subst hv
        exact w161_90  h
      · cases h
    · rw [if_neg hp0] at h
      cases h
set_option maxRecDepth 20000 in
set_option maxHeartbeats 4000000 in
theorem wc161_11 (D : sm_D) {l2 l3 l4 l5 l6 l7 : Int32} {g1 : Value} {M : sm_M} {R : sm_S} {v : (Int32 × Int32 × Int32 × Int32 × Int32 × Int32 × sm_M) ⊕ sm_S} (h : jT_search_11_c l2 l3 l4 l5 l6 l7 D M = some v) (hv : (gd161_11 D R) v) : sm_WJ smT smCl smSa shC f161 0 11 [.ref 1, g1, .int l2, .int l3, .int l4, .int l5, .int l6, .int l7] [] D M R := by
  have e : jT_search_11_c l2 l3 l4 l5 l6 l7 D M = (sm_run shC smSa sm_nocal c161 false (fun a D M => some (.inr (a, D, M))) (lf161_11 D) 54 (c161.drop 7) [.ref 1, g1, .int l2, .int l3, .int l4, .int l5, .int l6, .int l7] [] D M : Option ((Int32 × Int32 × Int32 × Int32 × Int32 × Int32 × sm_M) ⊕ sm_S)) := rfl
  exact sm_blk (ρ := (Int32 × Int32 × Int32 × Int32 × Int32 × Int32 × sm_M) ⊕ sm_S) (gd := (gd161_11 D R)) (kx := 161) (i := 7) smVC rfl (by decide) (sm_nocal_ok smT smCl smP smSa shC 0) (fun a D M v e1 e2 => by cases e1; exact e2.symm) (ll161_11 D) rfl (e.symm.trans h) hv
theorem w161_11 {l2 l3 l4 l5 l6 l7 : Int32} {g1 : Value} {D : sm_D} {M : sm_M} {R : sm_S} (h : jT_search_11 l2 l3 l4 l5 l6 l7 D M = some R) : sm_WJ smT smCl smSa shC f161 0 11 [.ref 1, g1, .int l2, .int l3, .int l4, .int l5, .int l6, .int l7] [] D M R := by
  have hh : lh161_11 D R (l2, l3, l4, l5, l6, l7, M) := by
    refine sm_lp_ind (b := jT_search_11_b D) (r := R) (lh161_11 D R) ?_ h
    intro s v hb h1 h2
    obtain ⟨z0, z1, z2, z3, z4, z5, M1⟩ := s
    have hv : gd161_11 D R v := by
      cases v with
      | inl s' => exact h1 s' rfl
      | inr r => exact h2 r rfl
    intro g1
    exact wc161_11 D hb hv
  exact hh _
noncomputable def lf161_0 (D : sm_D) : Nat → List Value → List Value → sm_D → sm_M → Option (sm_S) := fun pc ls st D' M =>
  if pc = 11 then (match ls, st with
    | [.ref 1, gl1, .int bl2, .int bl3, .int bl4, .int bl5, .int bl6, .int bl7], [] => (jT_search_11 bl2 bl3 bl4 bl5 bl6 bl7 D' M)
    | _, _ => none)
  else none
theorem ll161_0 (D : sm_D) {R : sm_S} : ∀ (pc : Nat) (ls st : List Value) (D' : sm_D) (M : sm_M) (v : sm_S), (lf161_0 D) pc ls st D' M = some v → (fun v => v = R) v → sm_WJ smT smCl smSa shC f161 0 pc ls st D' M R := by
  intro pc ls st D' M v h hv
  unfold lf161_0 at h
  by_cases hp0 : pc = 11
  · subst hp0
    rw [if_pos (show (11 : Nat) = 11 from rfl)] at h
    split at h
    · skip
      have hv : v = R := hv
      subst hv
      exact w161_11  h
    · cases h
  · rw [if_neg hp0] at h
    cases h
set_option maxRecDepth 20000 in
set_option maxHeartbeats 4000000 in
theorem we161 {l1 l2 l3 l4 l5 : Int32} {D : sm_D} {M : sm_M} {R : sm_S} (h : jT_search l1 l2 l3 l4 l5 D M = some R) : sm_WJ smT smCl smSa shC f161 0 0 [.ref 1, .int l1, .int l2, .int l3, .int l4, .int l5, .retAddr 0, .retAddr 0] [] D M R := by
  have e : jT_search l1 l2 l3 l4 l5 D M = (sm_run shC smSa sm_nocal c161 false (fun a D M => some (a, D, M)) (lf161_0 D) 54 (c161.drop 0) [.ref 1, .int l1, .int l2, .int l3, .int l4, .int l5, .retAddr 0, .retAddr 0] [] D M : Option (sm_S)) := rfl
  exact sm_blk (ρ := sm_S) (gd := (fun v => v = R)) (kx := 161) (i := 0) smVC rfl (by decide) (sm_nocal_ok smT smCl smP smSa shC 0) (fun a D M v e1 e2 => by cases e1; exact e2.symm) (ll161_0 D) rfl (e.symm.trans h) rfl
theorem m161 {l1 l2 l3 l4 l5 : Int32} {D : sm_D} {M : sm_M} {R : sm_S} (h : jT_search l1 l2 l3 l4 l5 D M = some R) : sm_MJ smT smCl smSa shC f161 0 [.ref 1, .int l1, .int l2, .int l3, .int l4, .int l5] D M R :=
  sm_met (by decide) (Nat.le_of_ble_eq_true rfl) (List.all_eq_true.mp rfl) (we161  h)

-- jT_append
set_option maxRecDepth 20000 in
set_option maxHeartbeats 4000000 in
theorem we162 {l1 l2 l3 l4 l5 : Int32} {D : sm_D} {M : sm_M} {R : sm_S} (h : jT_append l1 l2 l3 l4 l5 D M = some R) : sm_WJ smT smCl smSa shC f162 0 0 [.ref 1, .int l1, .int l2, .int l3, .int l4, .int l5] [] D M R := by
  have e : jT_append l1 l2 l3 l4 l5 D M = (sm_run shC smSa sm_nocal c162 false (fun a D M => some (a, D, M)) sm_noleaf 51 (c162.drop 0) [.ref 1, .int l1, .int l2, .int l3, .int l4, .int l5] [] D M : Option (sm_S)) := rfl
  exact sm_blk (ρ := sm_S) (gd := (fun v => v = R)) (kx := 162) (i := 0) smVC rfl (by decide) (sm_nocal_ok smT smCl smP smSa shC 0) (fun a D M v e1 e2 => by cases e1; exact e2.symm) (sm_noleaf_ok) rfl (e.symm.trans h) rfl
theorem m162 {l1 l2 l3 l4 l5 : Int32} {D : sm_D} {M : sm_M} {R : sm_S} (h : jT_append l1 l2 l3 l4 l5 D M = some R) : sm_MJ smT smCl smSa shC f162 0 [.ref 1, .int l1, .int l2, .int l3, .int l4, .int l5] D M R :=
  sm_met (by decide) (Nat.le_of_ble_eq_true rfl) (List.all_eq_true.mp rfl) (we162  h)

-- jT_find
noncomputable def cal159  : sm_Cal := fun x as D M =>
  if x = 163 then (match as with
    | [.int a0, .int a1, .int a2, .int a3] => (jT_bucket a0 a1 a2 a3 D M)
    | _ => none)
  else if x = 161 then (match as with
    | [.ref 1, .int a1, .int a2, .int a3, .int a4, .int a5] => (jT_search a1 a2 a3 a4 a5 D M)
    | _ => none)
  else if x = 156 then (match as with
    | [.ref 1, .int a1] => (jT_sizeOf a1 D M)
    | _ => none)
  else if x = 162 then (match as with
    | [.ref 1, .int a1, .int a2, .int a3, .int a4, .int a5] => (jT_append a1 a2 a3 a4 a5 D M)
    | _ => none)
  else none
theorem ck159  : sm_CalOk smT smCl smP smSa shC 1 cal159 := by
  intro x g as D M R hx h
  unfold cal159 at h
  by_cases hx' : x = 163
  · subst hx'
    rw [if_pos (show (163 : Nat) = 163 from rfl)] at h
    cases (show smP[163]? = some f163 from rfl).symm.trans hx
    split at h
    · skip
      exact Or.inl ⟨0, by omega, m163   h⟩
    · cases h
  · rw [if_neg hx'] at h
    by_cases hx' : x = 161
    · subst hx'
      rw [if_pos (show (161 : Nat) = 161 from rfl)] at h
      cases (show smP[161]? = some f161 from rfl).symm.trans hx
      split at h
      · skip
        exact Or.inl ⟨0, by omega, m161   h⟩
      · cases h
    · rw [if_neg hx'] at h
      by_cases hx' : x = 156
      · subst hx'
        rw [if_pos (show (156 : Nat) = 156 from rfl)] at h
        cases (show smP[156]? = some f156 from rfl).symm.trans hx
        split at h
        · skip
          exact Or.inl ⟨0, by omega, m156   h⟩
        · cases h
      · rw [if_neg hx'] at h
        by_cases hx' : x = 162
        · subst hx'
          rw [if_pos (show (162 : Nat) = 162 from rfl)] at h
          cases (show smP[162]? = some f162 from rfl).symm.trans hx
          split at h
          · skip
            exact Or.inl ⟨0, by omega, m162   h⟩
          · cases h
        · rw [if_neg hx'] at h
          cases h
set_option maxRecDepth 20000 in
set_option maxHeartbeats 4000000 in
theorem w159_39 {l6 : Int32} {g0 g1 g2 g3 g4 g5 : Value} {D : sm_D} {M : sm_M} {R : sm_S} (h : jT_find_39 l6 D M = some R) : sm_WJ smT smCl smSa shC f159 1 39 [g0, g1, g2, g3, g4, g5, .int l6] [] D M R := by
  have e : jT_find_39 l6 D M = (sm_run shC smSa cal159 c159 false (fun a D M => some (a, D, M)) sm_noleaf 58 (c159.drop 21) [g0, g1, g2, g3, g4, g5, .int l6] [] D M : Option (sm_S)) := rfl
  exact sm_blk (ρ := sm_S) (gd := (fun v => v = R)) (kx := 159) (i := 21) smVC rfl (by decide) ck159 (fun a D M v e1 e2 => by cases e1; exact e2.symm) (sm_noleaf_ok) rfl (e.symm.trans h) rfl
noncomputable def lf159_0 (D : sm_D) : Nat → List Value → List Value → sm_D → sm_M → Option (sm_S) := fun pc ls st D' M =>
  if pc = 39 then (match ls, st with
    | [gl0, gl1, gl2, gl3, gl4, gl5, .int bl6], [] => (jT_find_39 bl6 D' M)
    | _, _ => none)
  else none
theorem ll159_0 (D : sm_D) {R : sm_S} : ∀ (pc : Nat) (ls st : List Value) (D' : sm_D) (M : sm_M) (v : sm_S), (lf159_0 D) pc ls st D' M = some v → (fun v => v = R) v → sm_WJ smT smCl smSa shC f159 1 pc ls st D' M R := by
  intro pc ls st D' M v h hv
  unfold lf159_0 at h
  by_cases hp0 : pc = 39
  · subst hp0
    rw [if_pos (show (39 : Nat) = 39 from rfl)] at h
    split at h
    · skip
      have hv : v = R := hv
      subst hv
      exact w159_39  h
    · cases h
  · rw [if_neg hp0] at h
    cases h
set_option maxRecDepth 20000 in
set_option maxHeartbeats 4000000 in
theorem we159 {l1 l2 l3 l4 : Int32} {D : sm_D} {M : sm_M} {R : sm_S} (h : jT_find l1 l2 l3 l4 D M = some R) : sm_WJ smT smCl smSa shC f159 1 0 [.ref 1, .int l1, .int l2, .int l3, .int l4, .retAddr 0, .retAddr 0] [] D M R := by
  have e : jT_find l1 l2 l3 l4 D M = (sm_run shC smSa cal159 c159 false (fun a D M => some (a, D, M)) (lf159_0 D) 58 (c159.drop 0) [.ref 1, .int l1, .int l2, .int l3, .int l4, .retAddr 0, .retAddr 0] [] D M : Option (sm_S)) := rfl
  exact sm_blk (ρ := sm_S) (gd := (fun v => v = R)) (kx := 159) (i := 0) smVC rfl (by decide) ck159 (fun a D M v e1 e2 => by cases e1; exact e2.symm) (ll159_0 D) rfl (e.symm.trans h) rfl
theorem m159 {l1 l2 l3 l4 : Int32} {D : sm_D} {M : sm_M} {R : sm_S} (h : jT_find l1 l2 l3 l4 D M = some R) : sm_MJ smT smCl smSa shC f159 1 [.ref 1, .int l1, .int l2, .int l3, .int l4] D M R :=
  sm_met (by decide) (Nat.le_of_ble_eq_true rfl) (List.all_eq_true.mp rfl) (we159  h)

-- jT_keep
noncomputable def cal158  : sm_Cal := fun x as D M =>
  if x = 156 then (match as with
    | [.ref 1, .int a1] => (jT_sizeOf a1 D M)
    | _ => none)
  else if x = 159 then (match as with
    | [.ref 1, .int a1, .int a2, .int a3, .int a4] => (jT_find a1 a2 a3 a4 D M)
    | _ => none)
  else if x = 163 then (match as with
    | [.int a0, .int a1, .int a2, .int a3] => (jT_bucket a0 a1 a2 a3 D M)
    | _ => none)
  else if x = 161 then (match as with
    | [.ref 1, .int a1, .int a2, .int a3, .int a4, .int a5] => (jT_search a1 a2 a3 a4 a5 D M)
    | _ => none)
  else none
theorem ck158  : sm_CalOk smT smCl smP smSa shC 2 cal158 := by
  intro x g as D M R hx h
  unfold cal158 at h
  by_cases hx' : x = 156
  · subst hx'
    rw [if_pos (show (156 : Nat) = 156 from rfl)] at h
    cases (show smP[156]? = some f156 from rfl).symm.trans hx
    split at h
    · skip
      exact Or.inl ⟨0, by omega, m156   h⟩
    · cases h
  · rw [if_neg hx'] at h
    by_cases hx' : x = 159
    · subst hx'
      rw [if_pos (show (159 : Nat) = 159 from rfl)] at h
      cases (show smP[159]? = some f159 from rfl).symm.trans hx
      split at h
      · skip
        exact Or.inl ⟨1, by omega, m159   h⟩
      · cases h
    · rw [if_neg hx'] at h
      by_cases hx' : x = 163
      · subst hx'
        rw [if_pos (show (163 : Nat) = 163 from rfl)] at h
        cases (show smP[163]? = some f163 from rfl).symm.trans hx
        split at h
        · skip
          exact Or.inl ⟨0, by omega, m163   h⟩
        · cases h
      · rw [if_neg hx'] at h
        by_cases hx' : x = 161
        · subst hx'
          rw [if_pos (show (161 : Nat) = 161 from rfl)] at h
          cases (show smP[161]? = some f161 from rfl).symm.trans hx
          split at h
          · skip
            exact Or.inl ⟨0, by omega, m161   h⟩
          · cases h
        · rw [if_neg hx'] at h
          cases h
set_option maxRecDepth 20000 in
set_option maxHeartbeats 4000000 in
theorem w158_56 {l1 l2 l3 l4 : Int32} {g5 : Value} {D : sm_D} {M : sm_M} {R : sm_S} (h : jT_keep_56 l1 l2 l3 l4 D M = some R) : sm_WJ smT smCl smSa shC f158 2 56 [.ref 1, .int l1, .int l2, .int l3, .int l4, g5] [] D M R := by
  have e : jT_keep_56 l1 l2 l3 l4 D M = (sm_run shC smSa cal158 c158 false (fun a D M => some (a, D, M)) sm_noleaf 49 (c158.drop 32) [.ref 1, .int l1, .int l2, .int l3, .int l4, g5] [] D M : Option (sm_S)) := rfl
  exact sm_blk (ρ := sm_S) (gd := (fun v => v = R)) (kx := 158) (i := 32) smVC rfl (by decide) ck158 (fun a D M v e1 e2 => by cases e1; exact e2.symm) (sm_noleaf_ok) rfl (e.symm.trans h) rfl
noncomputable def lf158_30 (D : sm_D) : Nat → List Value → List Value → sm_D → sm_M → Option (sm_S) := fun pc ls st D' M =>
  if pc = 56 then (match ls, st with
    | [.ref 1, .int bl1, .int bl2, .int bl3, .int bl4, gl5], [] => (jT_keep_56 bl1 bl2 bl3 bl4 D' M)
    | _, _ => none)
  else none
theorem ll158_30 (D : sm_D) {R : sm_S} : ∀ (pc : Nat) (ls st : List Value) (D' : sm_D) (M : sm_M) (v : sm_S), (lf158_30 D) pc ls st D' M = some v → (fun v => v = R) v → sm_WJ smT smCl smSa shC f158 2 pc ls st D' M R := by
  intro pc ls st D' M v h hv
  unfold lf158_30 at h
  by_cases hp0 : pc = 56
  · subst hp0
    rw [if_pos (show (56 : Nat) = 56 from rfl)] at h
    split at h
    · skip
      have hv : v = R := hv
      subst hv
      exact w158_56  h
    · cases h
  · rw [if_neg hp0] at h
    cases h
set_option maxRecDepth 20000 in
set_option maxHeartbeats 4000000 in
theorem w158_30 {l1 l2 l3 l4 s0 : Int32} {g5 : Value} {D : sm_D} {M : sm_M} {R : sm_S} (h : jT_keep_30 l1 l2 l3 l4 s0 D M = some R) : sm_WJ smT smCl smSa shC f158 2 30 [.ref 1, .int l1, .int l2, .int l3, .int l4, g5] [.int s0] D M R := by
  have e : jT_keep_30 l1 l2 l3 l4 s0 D M = (sm_run shC smSa cal158 c158 false (fun a D M => some (a, D, M)) (lf158_30 D) 49 (c158.drop 18) [.ref 1, .int l1, .int l2, .int l3, .int l4, g5] [.int s0] D M : Option (sm_S)) := rfl
  exact sm_blk (ρ := sm_S) (gd := (fun v => v = R)) (kx := 158) (i := 18) smVC rfl (by decide) ck158 (fun a D M v e1 e2 => by cases e1; exact e2.symm) (ll158_30 D) rfl (e.symm.trans h) rfl
noncomputable def lf158_0 (D : sm_D) : Nat → List Value → List Value → sm_D → sm_M → Option (sm_S) := fun pc ls st D' M =>
  if pc = 30 then (match ls, st with
    | [.ref 1, .int bl1, .int bl2, .int bl3, .int bl4, gl5], [.int bs0] => (jT_keep_30 bl1 bl2 bl3 bl4 bs0 D' M)
    | _, _ => none)
  else none
theorem ll158_0 (D : sm_D) {R : sm_S} : ∀ (pc : Nat) (ls st : List Value) (D' : sm_D) (M : sm_M) (v : sm_S), (lf158_0 D) pc ls st D' M = some v → (fun v => v = R) v → sm_WJ smT smCl smSa shC f158 2 pc ls st D' M R := by
  intro pc ls st D' M v h hv
  unfold lf158_0 at h
  by_cases hp0 : pc = 30
  · subst hp0
    rw [if_pos (show (30 : Nat) = 30 from rfl)] at h
    split at h
    · skip
      have hv : v = R := hv
      subst hv
      exact w158_30  h
    · cases h
  · rw [if_neg hp0] at h
    cases h
set_option maxRecDepth 20000 in
set_option maxHeartbeats 4000000 in
theorem we158 {l1 l2 l3 l4 : Int32} {D : sm_D} {M : sm_M} {R : sm_S} (h : jT_keep l1 l2 l3 l4 D M = some R) : sm_WJ smT smCl smSa shC f158 2 0 [.ref 1, .int l1, .int l2, .int l3, .int l4, .retAddr 0] [] D M R := by
  have e : jT_keep l1 l2 l3 l4 D M = (sm_run shC smSa cal158 c158 false (fun a D M => some (a, D, M)) (lf158_0 D) 49 (c158.drop 0) [.ref 1, .int l1, .int l2, .int l3, .int l4, .retAddr 0] [] D M : Option (sm_S)) := rfl
  exact sm_blk (ρ := sm_S) (gd := (fun v => v = R)) (kx := 158) (i := 0) smVC rfl (by decide) ck158 (fun a D M v e1 e2 => by cases e1; exact e2.symm) (ll158_0 D) rfl (e.symm.trans h) rfl
theorem m158 {l1 l2 l3 l4 : Int32} {D : sm_D} {M : sm_M} {R : sm_S} (h : jT_keep l1 l2 l3 l4 D M = some R) : sm_MJ smT smCl smSa shC f158 2 [.ref 1, .int l1, .int l2, .int l3, .int l4] D M R :=
  sm_met (by decide) (Nat.le_of_ble_eq_true rfl) (List.all_eq_true.mp rfl) (we158  h)

-- jT_canAsk
noncomputable def cal151  : sm_Cal := fun x as D M =>
  if x = 150 then (match as with
    | [.ref 1, .int a1] => (jT_has a1 D M)
    | _ => none)
  else none
theorem ck151  : sm_CalOk smT smCl smP smSa shC 1 cal151 := by
  intro x g as D M R hx h
  unfold cal151 at h
  by_cases hx' : x = 150
  · subst hx'
    rw [if_pos (show (150 : Nat) = 150 from rfl)] at h
    cases (show smP[150]? = some f150 from rfl).symm.trans hx
    split at h
    · skip
      exact Or.inl ⟨0, by omega, m150   h⟩
    · cases h
  · rw [if_neg hx'] at h
    cases h
set_option maxRecDepth 20000 in
set_option maxHeartbeats 4000000 in
theorem w151_44 {s0 : Int32} {g0 g1 g2 g3 : Value} {D : sm_D} {M : sm_M} {R : sm_S} (h : jT_canAsk_44 s0 D M = some R) : sm_WJ smT smCl smSa shC f151 1 44 [g0, g1, g2, g3] [.int s0] D M R := by
  have e : jT_canAsk_44 s0 D M = (sm_run shC smSa cal151 c151 true (fun a D M => some (a, D, M)) sm_noleaf 30 (c151.drop 24) [g0, g1, g2, g3] [.int s0] D M : Option (sm_S)) := rfl
  exact sm_blk (ρ := sm_S) (gd := (fun v => v = R)) (kx := 151) (i := 24) smVC rfl (by decide) ck151 (fun a D M v e1 e2 => by cases e1; exact e2.symm) (sm_noleaf_ok) rfl (e.symm.trans h) rfl
noncomputable def lf151_39 (D : sm_D) : Nat → List Value → List Value → sm_D → sm_M → Option (sm_S) := fun pc ls st D' M =>
  if pc = 44 then (match ls, st with
    | [gl0, gl1, gl2, gl3], [.int bs0] => (jT_canAsk_44 bs0 D' M)
    | _, _ => none)
  else none
theorem ll151_39 (D : sm_D) {R : sm_S} : ∀ (pc : Nat) (ls st : List Value) (D' : sm_D) (M : sm_M) (v : sm_S), (lf151_39 D) pc ls st D' M = some v → (fun v => v = R) v → sm_WJ smT smCl smSa shC f151 1 pc ls st D' M R := by
  intro pc ls st D' M v h hv
  unfold lf151_39 at h
  by_cases hp0 : pc = 44
  · subst hp0
    rw [if_pos (show (44 : Nat) = 44 from rfl)] at h
    split at h
    · skip
      have hv : v = R := hv
      subst hv
      exact w151_44  h
    · cases h
  · rw [if_neg hp0] at h
    cases h
set_option maxRecDepth 20000 in
set_option maxHeartbeats 4000000 in
theorem w151_39 {g0 g1 g2 g3 : Value} {D : sm_D} {M : sm_M} {R : sm_S} (h : jT_canAsk_39 D M = some R) : sm_WJ smT smCl smSa shC f151 1 39 [g0, g1, g2, g3] [] D M R := by
  have e : jT_canAsk_39 D M = (sm_run shC smSa cal151 c151 true (fun a D M => some (a, D, M)) (lf151_39 D) 30 (c151.drop 21) [g0, g1, g2, g3] [] D M : Option (sm_S)) := rfl
  exact sm_blk (ρ := sm_S) (gd := (fun v => v = R)) (kx := 151) (i := 21) smVC rfl (by decide) ck151 (fun a D M v e1 e2 => by cases e1; exact e2.symm) (ll151_39 D) rfl (e.symm.trans h) rfl
noncomputable def lf151_43 (D : sm_D) : Nat → List Value → List Value → sm_D → sm_M → Option (sm_S) := fun pc ls st D' M =>
  if pc = 44 then (match ls, st with
    | [gl0, gl1, gl2, gl3], [.int bs0] => (jT_canAsk_44 bs0 D' M)
    | _, _ => none)
  else none
theorem ll151_43 (D : sm_D) {R : sm_S} : ∀ (pc : Nat) (ls st : List Value) (D' : sm_D) (M : sm_M) (v : sm_S), (lf151_43 D) pc ls st D' M = some v → (fun v => v = R) v → sm_WJ smT smCl smSa shC f151 1 pc ls st D' M R := by
  intro pc ls st D' M v h hv
  unfold lf151_43 at h
  by_cases hp0 : pc = 44
  · subst hp0
    rw [if_pos (show (44 : Nat) = 44 from rfl)] at h
    split at h
    · skip
      have hv : v = R := hv
      subst hv
      exact w151_44  h
    · cases h
  · rw [if_neg hp0] at h
    cases h
set_option maxRecDepth 20000 in
set_option maxHeartbeats 4000000 in
theorem w151_43 {g0 g1 g2 g3 : Value} {D : sm_D} {M : sm_M} {R : sm_S} (h : jT_canAsk_43 D M = some R) : sm_WJ smT smCl smSa shC f151 1 43 [g0, g1, g2, g3] [] D M R := by
  have e : jT_canAsk_43 D M = (sm_run shC smSa cal151 c151 true (fun a D M => some (a, D, M)) (lf151_43 D) 30 (c151.drop 23) [g0, g1, g2, g3] [] D M : Option (sm_S)) := rfl
  exact sm_blk (ρ := sm_S) (gd := (fun v => v = R)) (kx := 151) (i := 23) smVC rfl (by decide) ck151 (fun a D M v e1 e2 => by cases e1; exact e2.symm) (ll151_43 D) rfl (e.symm.trans h) rfl
noncomputable def lf151_26 (D : sm_D) : Nat → List Value → List Value → sm_D → sm_M → Option (sm_S) := fun pc ls st D' M =>
  if pc = 39 then (match ls, st with
    | [gl0, gl1, gl2, gl3], [] => (jT_canAsk_39 D' M)
    | _, _ => none)
  else if pc = 43 then (match ls, st with
    | [gl0, gl1, gl2, gl3], [] => (jT_canAsk_43 D' M)
    | _, _ => none)
  else none
theorem ll151_26 (D : sm_D) {R : sm_S} : ∀ (pc : Nat) (ls st : List Value) (D' : sm_D) (M : sm_M) (v : sm_S), (lf151_26 D) pc ls st D' M = some v → (fun v => v = R) v → sm_WJ smT smCl smSa shC f151 1 pc ls st D' M R := by
  intro pc ls st D' M v h hv
  unfold lf151_26 at h
  by_cases hp0 : pc = 39
  · subst hp0
    rw [if_pos (show (39 : Nat) = 39 from rfl)] at h
    split at h
    · skip
      have hv : v = R := hv
      subst hv
      exact w151_39  h
    · cases h
  · rw [if_neg hp0] at h
    by_cases hp0 : pc = 43
    · subst hp0
      rw [if_pos (show (43 : Nat) = 43 from rfl)] at h
      split at h
      · skip
        have hv : v = R := hv
        subst hv
        exact w151_43  h
      · cases h
    · rw [if_neg hp0] at h
      cases h
set_option maxRecDepth 20000 in
set_option maxHeartbeats 4000000 in
theorem w151_26 {l3 : Int32} {g1 g2 : Value} {D : sm_D} {M : sm_M} {R : sm_S} (h : jT_canAsk_26 l3 D M = some R) : sm_WJ smT smCl smSa shC f151 1 26 [.ref 1, g1, g2, .int l3] [] D M R := by
  have e : jT_canAsk_26 l3 D M = (sm_run shC smSa cal151 c151 true (fun a D M => some (a, D, M)) (lf151_26 D) 30 (c151.drop 14) [.ref 1, g1, g2, .int l3] [] D M : Option (sm_S)) := rfl
  exact sm_blk (ρ := sm_S) (gd := (fun v => v = R)) (kx := 151) (i := 14) smVC rfl (by decide) ck151 (fun a D M v e1 e2 => by cases e1; exact e2.symm) (ll151_26 D) rfl (e.symm.trans h) rfl
noncomputable def lf151_13 (D : sm_D) : Nat → List Value → List Value → sm_D → sm_M → Option (sm_S) := fun pc ls st D' M =>
  if pc = 26 then (match ls, st with
    | [.ref 1, gl1, gl2, .int bl3], [] => (jT_canAsk_26 bl3 D' M)
    | _, _ => none)
  else if pc = 43 then (match ls, st with
    | [gl0, gl1, gl2, gl3], [] => (jT_canAsk_43 D' M)
    | _, _ => none)
  else none
theorem ll151_13 (D : sm_D) {R : sm_S} : ∀ (pc : Nat) (ls st : List Value) (D' : sm_D) (M : sm_M) (v : sm_S), (lf151_13 D) pc ls st D' M = some v → (fun v => v = R) v → sm_WJ smT smCl smSa shC f151 1 pc ls st D' M R := by
  intro pc ls st D' M v h hv
  unfold lf151_13 at h
  by_cases hp0 : pc = 26
  · subst hp0
    rw [if_pos (show (26 : Nat) = 26 from rfl)] at h
    split at h
    · skip
      have hv : v = R := hv
      subst hv
      exact w151_26  h
    · cases h
  · rw [if_neg hp0] at h
    by_cases hp0 : pc = 43
    · subst hp0
      rw [if_pos (show (43 : Nat) = 43 from rfl)] at h
      split at h
      · skip
        have hv : v = R := hv
        subst hv
        exact w151_43  h
      · cases h
    · rw [if_neg hp0] at h
      cases h
set_option maxRecDepth 20000 in
set_option maxHeartbeats 4000000 in
theorem w151_13 {l2 l3 : Int32} {g1 : Value} {D : sm_D} {M : sm_M} {R : sm_S} (h : jT_canAsk_13 l2 l3 D M = some R) : sm_WJ smT smCl smSa shC f151 1 13 [.ref 1, g1, .int l2, .int l3] [] D M R := by
  have e : jT_canAsk_13 l2 l3 D M = (sm_run shC smSa cal151 c151 true (fun a D M => some (a, D, M)) (lf151_13 D) 30 (c151.drop 7) [.ref 1, g1, .int l2, .int l3] [] D M : Option (sm_S)) := rfl
  exact sm_blk (ρ := sm_S) (gd := (fun v => v = R)) (kx := 151) (i := 7) smVC rfl (by decide) ck151 (fun a D M v e1 e2 => by cases e1; exact e2.symm) (ll151_13 D) rfl (e.symm.trans h) rfl
noncomputable def lf151_0 (D : sm_D) : Nat → List Value → List Value → sm_D → sm_M → Option (sm_S) := fun pc ls st D' M =>
  if pc = 13 then (match ls, st with
    | [.ref 1, gl1, .int bl2, .int bl3], [] => (jT_canAsk_13 bl2 bl3 D' M)
    | _, _ => none)
  else if pc = 43 then (match ls, st with
    | [gl0, gl1, gl2, gl3], [] => (jT_canAsk_43 D' M)
    | _, _ => none)
  else none
theorem ll151_0 (D : sm_D) {R : sm_S} : ∀ (pc : Nat) (ls st : List Value) (D' : sm_D) (M : sm_M) (v : sm_S), (lf151_0 D) pc ls st D' M = some v → (fun v => v = R) v → sm_WJ smT smCl smSa shC f151 1 pc ls st D' M R := by
  intro pc ls st D' M v h hv
  unfold lf151_0 at h
  by_cases hp0 : pc = 13
  · subst hp0
    rw [if_pos (show (13 : Nat) = 13 from rfl)] at h
    split at h
    · skip
      have hv : v = R := hv
      subst hv
      exact w151_13  h
    · cases h
  · rw [if_neg hp0] at h
    by_cases hp0 : pc = 43
    · subst hp0
      rw [if_pos (show (43 : Nat) = 43 from rfl)] at h
      split at h
      · skip
        have hv : v = R := hv
        subst hv
        exact w151_43  h
      · cases h
    · rw [if_neg hp0] at h
      cases h
set_option maxRecDepth 20000 in
set_option maxHeartbeats 4000000 in
theorem we151 {l1 l2 l3 : Int32} {D : sm_D} {M : sm_M} {R : sm_S} (h : jT_canAsk l1 l2 l3 D M = some R) : sm_WJ smT smCl smSa shC f151 1 0 [.ref 1, .int l1, .int l2, .int l3] [] D M R := by
  have e : jT_canAsk l1 l2 l3 D M = (sm_run shC smSa cal151 c151 true (fun a D M => some (a, D, M)) (lf151_0 D) 30 (c151.drop 0) [.ref 1, .int l1, .int l2, .int l3] [] D M : Option (sm_S)) := rfl
  exact sm_blk (ρ := sm_S) (gd := (fun v => v = R)) (kx := 151) (i := 0) smVC rfl (by decide) ck151 (fun a D M v e1 e2 => by cases e1; exact e2.symm) (ll151_0 D) rfl (e.symm.trans h) rfl
theorem m151 {l1 l2 l3 : Int32} {D : sm_D} {M : sm_M} {R : sm_S} (h : jT_canAsk l1 l2 l3 D M = some R) : sm_MJ smT smCl smSa shC f151 1 [.ref 1, .int l1, .int l2, .int l3] D M R :=
  sm_met (by decide) (Nat.le_of_ble_eq_true rfl) (List.all_eq_true.mp rfl) (we151  h)

-- jA_type
noncomputable def cal0  : sm_Cal := fun x as D M =>
  if x = 150 then (match as with
    | [.ref 1, .int a1] => (jT_has a1 D M)
    | _ => none)
  else if x = 158 then (match as with
    | [.ref 1, .int a1, .int a2, .int a3, .int a4] => (jT_keep a1 a2 a3 a4 D M)
    | _ => none)
  else if x = 151 then (match as with
    | [.ref 1, .int a1, .int a2, .int a3] => (jT_canAsk a1 a2 a3 D M)
    | _ => none)
  else none
theorem ck0  : sm_CalOk smT smCl smP smSa shC 3 cal0 := by
  intro x g as D M R hx h
  unfold cal0 at h
  by_cases hx' : x = 150
  · subst hx'
    rw [if_pos (show (150 : Nat) = 150 from rfl)] at h
    cases (show smP[150]? = some f150 from rfl).symm.trans hx
    split at h
    · skip
      exact Or.inl ⟨0, by omega, m150   h⟩
    · cases h
  · rw [if_neg hx'] at h
    by_cases hx' : x = 158
    · subst hx'
      rw [if_pos (show (158 : Nat) = 158 from rfl)] at h
      cases (show smP[158]? = some f158 from rfl).symm.trans hx
      split at h
      · skip
        exact Or.inl ⟨2, by omega, m158   h⟩
      · cases h
    · rw [if_neg hx'] at h
      by_cases hx' : x = 151
      · subst hx'
        rw [if_pos (show (151 : Nat) = 151 from rfl)] at h
        cases (show smP[151]? = some f151 from rfl).symm.trans hx
        split at h
        · skip
          exact Or.inl ⟨1, by omega, m151   h⟩
        · cases h
      · rw [if_neg hx'] at h
        cases h
set_option maxRecDepth 20000 in
set_option maxHeartbeats 4000000 in
theorem w0_69 {s0 : Int32} {g0 g1 g2 g3 g4 : Value} {D : sm_D} {M : sm_M} {R : sm_S} (h : jA_type_69 s0 D M = some R) : sm_WJ smT smCl smSa shC f0 3 69 [g0, g1, g2, g3, g4] [.int s0] D M R := by
  have e : jA_type_69 s0 D M = (sm_run shC smSa cal0 c0 false (fun a D M => some (a, D, M)) sm_noleaf 61 (c0.drop 21) [g0, g1, g2, g3, g4] [.int s0] D M : Option (sm_S)) := rfl
  exact sm_blk (ρ := sm_S) (gd := (fun v => v = R)) (kx := 0) (i := 21) smVC rfl (by decide) ck0 (fun a D M v e1 e2 => by cases e1; exact e2.symm) (sm_noleaf_ok) rfl (e.symm.trans h) rfl
noncomputable def lf0_68 (D : sm_D) : Nat → List Value → List Value → sm_D → sm_M → Option (sm_S) := fun pc ls st D' M =>
  if pc = 69 then (match ls, st with
    | [gl0, gl1, gl2, gl3, gl4], [.int bs0] => (jA_type_69 bs0 D' M)
    | _, _ => none)
  else none
theorem ll0_68 (D : sm_D) {R : sm_S} : ∀ (pc : Nat) (ls st : List Value) (D' : sm_D) (M : sm_M) (v : sm_S), (lf0_68 D) pc ls st D' M = some v → (fun v => v = R) v → sm_WJ smT smCl smSa shC f0 3 pc ls st D' M R := by
  intro pc ls st D' M v h hv
  unfold lf0_68 at h
  by_cases hp0 : pc = 69
  · subst hp0
    rw [if_pos (show (69 : Nat) = 69 from rfl)] at h
    split at h
    · skip
      have hv : v = R := hv
      subst hv
      exact w0_69  h
    · cases h
  · rw [if_neg hp0] at h
    cases h
set_option maxRecDepth 20000 in
set_option maxHeartbeats 4000000 in
theorem w0_68 {g0 g1 g2 g3 g4 : Value} {D : sm_D} {M : sm_M} {R : sm_S} (h : jA_type_68 D M = some R) : sm_WJ smT smCl smSa shC f0 3 68 [g0, g1, g2, g3, g4] [] D M R := by
  have e : jA_type_68 D M = (sm_run shC smSa cal0 c0 false (fun a D M => some (a, D, M)) (lf0_68 D) 61 (c0.drop 20) [g0, g1, g2, g3, g4] [] D M : Option (sm_S)) := rfl
  exact sm_blk (ρ := sm_S) (gd := (fun v => v = R)) (kx := 0) (i := 20) smVC rfl (by decide) ck0 (fun a D M v e1 e2 => by cases e1; exact e2.symm) (ll0_68 D) rfl (e.symm.trans h) rfl
noncomputable def lf0_32 (D : sm_D) : Nat → List Value → List Value → sm_D → sm_M → Option (sm_S) := fun pc ls st D' M =>
  if pc = 68 then (match ls, st with
    | [gl0, gl1, gl2, gl3, gl4], [] => (jA_type_68 D' M)
    | _, _ => none)
  else if pc = 69 then (match ls, st with
    | [gl0, gl1, gl2, gl3, gl4], [.int bs0] => (jA_type_69 bs0 D' M)
    | _, _ => none)
  else none
theorem ll0_32 (D : sm_D) {R : sm_S} : ∀ (pc : Nat) (ls st : List Value) (D' : sm_D) (M : sm_M) (v : sm_S), (lf0_32 D) pc ls st D' M = some v → (fun v => v = R) v → sm_WJ smT smCl smSa shC f0 3 pc ls st D' M R := by
  intro pc ls st D' M v h hv
  unfold lf0_32 at h
  by_cases hp0 : pc = 68
  · subst hp0
    rw [if_pos (show (68 : Nat) = 68 from rfl)] at h
    split at h
    · skip
      have hv : v = R := hv
      subst hv
      exact w0_68  h
    · cases h
  · rw [if_neg hp0] at h
    by_cases hp0 : pc = 69
    · subst hp0
      rw [if_pos (show (69 : Nat) = 69 from rfl)] at h
      split at h
      · skip
        have hv : v = R := hv
        subst hv
        exact w0_69  h
      · cases h
    · rw [if_neg hp0] at h
      cases h
set_option maxRecDepth 20000 in
set_option maxHeartbeats 4000000 in
theorem w0_32 {l1 l2 l3 : Int32} {g4 : Value} {D : sm_D} {M : sm_M} {R : sm_S} (h : jA_type_32 l1 l2 l3 D M = some R) : sm_WJ smT smCl smSa shC f0 3 32 [.ref 60, .int l1, .int l2, .int l3, g4] [] D M R := by
  have e : jA_type_32 l1 l2 l3 D M = (sm_run shC smSa cal0 c0 false (fun a D M => some (a, D, M)) (lf0_32 D) 61 (c0.drop 2) [.ref 60, .int l1, .int l2, .int l3, g4] [] D M : Option (sm_S)) := rfl
  exact sm_blk (ρ := sm_S) (gd := (fun v => v = R)) (kx := 0) (i := 2) smVC rfl (by decide) ck0 (fun a D M v e1 e2 => by cases e1; exact e2.symm) (ll0_32 D) rfl (e.symm.trans h) rfl
set_option maxRecDepth 20000 in
set_option maxHeartbeats 4000000 in
theorem w0_96 {s0 : Int32} {g0 g1 g2 g3 g4 : Value} {D : sm_D} {M : sm_M} {R : sm_S} (h : jA_type_96 s0 D M = some R) : sm_WJ smT smCl smSa shC f0 3 96 [g0, g1, g2, g3, g4] [.int s0] D M R := by
  have e : jA_type_96 s0 D M = (sm_run shC smSa cal0 c0 false (fun a D M => some (a, D, M)) sm_noleaf 61 (c0.drop 36) [g0, g1, g2, g3, g4] [.int s0] D M : Option (sm_S)) := rfl
  exact sm_blk (ρ := sm_S) (gd := (fun v => v = R)) (kx := 0) (i := 36) smVC rfl (by decide) ck0 (fun a D M v e1 e2 => by cases e1; exact e2.symm) (sm_noleaf_ok) rfl (e.symm.trans h) rfl
set_option maxRecDepth 20000 in
set_option maxHeartbeats 4000000 in
theorem w0_127 {s0 : Int32} {g0 g1 g2 g3 g4 : Value} {D : sm_D} {M : sm_M} {R : sm_S} (h : jA_type_127 s0 D M = some R) : sm_WJ smT smCl smSa shC f0 3 127 [g0, g1, g2, g3, g4] [.int s0] D M R := by
  have e : jA_type_127 s0 D M = (sm_run shC smSa cal0 c0 false (fun a D M => some (a, D, M)) sm_noleaf 61 (c0.drop 53) [g0, g1, g2, g3, g4] [.int s0] D M : Option (sm_S)) := rfl
  exact sm_blk (ρ := sm_S) (gd := (fun v => v = R)) (kx := 0) (i := 53) smVC rfl (by decide) ck0 (fun a D M v e1 e2 => by cases e1; exact e2.symm) (sm_noleaf_ok) rfl (e.symm.trans h) rfl
noncomputable def lf0_0 (D : sm_D) : Nat → List Value → List Value → sm_D → sm_M → Option (sm_S) := fun pc ls st D' M =>
  if pc = 32 then (match ls, st with
    | [.ref 60, .int bl1, .int bl2, .int bl3, gl4], [] => (jA_type_32 bl1 bl2 bl3 D' M)
    | _, _ => none)
  else if pc = 96 then (match ls, st with
    | [gl0, gl1, gl2, gl3, gl4], [.int bs0] => (jA_type_96 bs0 D' M)
    | _, _ => none)
  else if pc = 127 then (match ls, st with
    | [gl0, gl1, gl2, gl3, gl4], [.int bs0] => (jA_type_127 bs0 D' M)
    | _, _ => none)
  else none
theorem ll0_0 (D : sm_D) {R : sm_S} : ∀ (pc : Nat) (ls st : List Value) (D' : sm_D) (M : sm_M) (v : sm_S), (lf0_0 D) pc ls st D' M = some v → (fun v => v = R) v → sm_WJ smT smCl smSa shC f0 3 pc ls st D' M R := by
  intro pc ls st D' M v h hv
  unfold lf0_0 at h
  by_cases hp0 : pc = 32
  · subst hp0
    rw [if_pos (show (32 : Nat) = 32 from rfl)] at h
    split at h
    · skip
      have hv : v = R := hv
      subst hv
      exact w0_32  h
    · cases h
  · rw [if_neg hp0] at h
    by_cases hp0 : pc = 96
    · subst hp0
      rw [if_pos (show (96 : Nat) = 96 from rfl)] at h
      split at h
      · skip
        have hv : v = R := hv
        subst hv
        exact w0_96  h
      · cases h
    · rw [if_neg hp0] at h
      by_cases hp0 : pc = 127
      · subst hp0
        rw [if_pos (show (127 : Nat) = 127 from rfl)] at h
        split at h
        · skip
          have hv : v = R := hv
          subst hv
          exact w0_127  h
        · cases h
      · rw [if_neg hp0] at h
        cases h
set_option maxRecDepth 20000 in
set_option maxHeartbeats 4000000 in
theorem we0 {l1 l2 l3 l4 : Int32} {D : sm_D} {M : sm_M} {R : sm_S} (h : jA_type l1 l2 l3 l4 D M = some R) : sm_WJ smT smCl smSa shC f0 3 0 [.ref 60, .int l1, .int l2, .int l3, .int l4] [] D M R := by
  have e : jA_type l1 l2 l3 l4 D M = (sm_run shC smSa cal0 c0 false (fun a D M => some (a, D, M)) (lf0_0 D) 61 (c0.drop 0) [.ref 60, .int l1, .int l2, .int l3, .int l4] [] D M : Option (sm_S)) := rfl
  exact sm_blk (ρ := sm_S) (gd := (fun v => v = R)) (kx := 0) (i := 0) smVC rfl (by decide) ck0 (fun a D M v e1 e2 => by cases e1; exact e2.symm) (ll0_0 D) rfl (e.symm.trans h) rfl
theorem m0 {l1 l2 l3 l4 : Int32} {D : sm_D} {M : sm_M} {R : sm_S} (h : jA_type l1 l2 l3 l4 D M = some R) : sm_MJ smT smCl smSa shC f0 3 [.ref 60, .int l1, .int l2, .int l3, .int l4] D M R :=
  sm_met (by decide) (Nat.le_of_ble_eq_true rfl) (List.all_eq_true.mp rfl) (we0  h)

-- jA_size
noncomputable def cal1  : sm_Cal := fun x as D M =>
  if x = 150 then (match as with
    | [.ref 1, .int a1] => (jT_has a1 D M)
    | _ => none)
  else if x = 156 then (match as with
    | [.ref 1, .int a1] => (jT_sizeOf a1 D M)
    | _ => none)
  else none
theorem ck1  : sm_CalOk smT smCl smP smSa shC 1 cal1 := by
  intro x g as D M R hx h
  unfold cal1 at h
  by_cases hx' : x = 150
  · subst hx'
    rw [if_pos (show (150 : Nat) = 150 from rfl)] at h
    cases (show smP[150]? = some f150 from rfl).symm.trans hx
    split at h
    · skip
      exact Or.inl ⟨0, by omega, m150   h⟩
    · cases h
  · rw [if_neg hx'] at h
    by_cases hx' : x = 156
    · subst hx'
      rw [if_pos (show (156 : Nat) = 156 from rfl)] at h
      cases (show smP[156]? = some f156 from rfl).symm.trans hx
      split at h
      · skip
        exact Or.inl ⟨0, by omega, m156   h⟩
      · cases h
    · rw [if_neg hx'] at h
      cases h
set_option maxRecDepth 20000 in
set_option maxHeartbeats 4000000 in
theorem w1_23 {s0 : Int32} {g0 g1 : Value} {D : sm_D} {M : sm_M} {R : sm_S} (h : jA_size_23 s0 D M = some R) : sm_WJ smT smCl smSa shC f1 1 23 [g0, g1] [.int s0] D M R := by
  have e : jA_size_23 s0 D M = (sm_run shC smSa cal1 c1 false (fun a D M => some (a, D, M)) sm_noleaf 17 (c1.drop 11) [g0, g1] [.int s0] D M : Option (sm_S)) := rfl
  exact sm_blk (ρ := sm_S) (gd := (fun v => v = R)) (kx := 1) (i := 11) smVC rfl (by decide) ck1 (fun a D M v e1 e2 => by cases e1; exact e2.symm) (sm_noleaf_ok) rfl (e.symm.trans h) rfl
noncomputable def lf1_0 (D : sm_D) : Nat → List Value → List Value → sm_D → sm_M → Option (sm_S) := fun pc ls st D' M =>
  if pc = 23 then (match ls, st with
    | [gl0, gl1], [.int bs0] => (jA_size_23 bs0 D' M)
    | _, _ => none)
  else none
theorem ll1_0 (D : sm_D) {R : sm_S} : ∀ (pc : Nat) (ls st : List Value) (D' : sm_D) (M : sm_M) (v : sm_S), (lf1_0 D) pc ls st D' M = some v → (fun v => v = R) v → sm_WJ smT smCl smSa shC f1 1 pc ls st D' M R := by
  intro pc ls st D' M v h hv
  unfold lf1_0 at h
  by_cases hp0 : pc = 23
  · subst hp0
    rw [if_pos (show (23 : Nat) = 23 from rfl)] at h
    split at h
    · skip
      have hv : v = R := hv
      subst hv
      exact w1_23  h
    · cases h
  · rw [if_neg hp0] at h
    cases h
set_option maxRecDepth 20000 in
set_option maxHeartbeats 4000000 in
theorem we1 {l1 : Int32} {D : sm_D} {M : sm_M} {R : sm_S} (h : jA_size l1 D M = some R) : sm_WJ smT smCl smSa shC f1 1 0 [.ref 60, .int l1] [] D M R := by
  have e : jA_size l1 D M = (sm_run shC smSa cal1 c1 false (fun a D M => some (a, D, M)) (lf1_0 D) 17 (c1.drop 0) [.ref 60, .int l1] [] D M : Option (sm_S)) := rfl
  exact sm_blk (ρ := sm_S) (gd := (fun v => v = R)) (kx := 1) (i := 0) smVC rfl (by decide) ck1 (fun a D M v e1 e2 => by cases e1; exact e2.symm) (ll1_0 D) rfl (e.symm.trans h) rfl
theorem m1 {l1 : Int32} {D : sm_D} {M : sm_M} {R : sm_S} (h : jA_size l1 D M = some R) : sm_MJ smT smCl smSa shC f1 1 [.ref 60, .int l1] D M R :=
  sm_met (by decide) (Nat.le_of_ble_eq_true rfl) (List.all_eq_true.mp rfl) (we1  h)

-- jT_kindOf
noncomputable def cal152  : sm_Cal := fun x as D M =>
  if x = 150 then (match as with
    | [.ref 1, .int a1] => (jT_has a1 D M)
    | _ => none)
  else none
theorem ck152  : sm_CalOk smT smCl smP smSa shC 1 cal152 := by
  intro x g as D M R hx h
  unfold cal152 at h
  by_cases hx' : x = 150
  · subst hx'
    rw [if_pos (show (150 : Nat) = 150 from rfl)] at h
    cases (show smP[150]? = some f150 from rfl).symm.trans hx
    split at h
    · skip
      exact Or.inl ⟨0, by omega, m150   h⟩
    · cases h
  · rw [if_neg hx'] at h
    cases h
set_option maxRecDepth 20000 in
set_option maxHeartbeats 4000000 in
theorem w152_18 {s0 : Int32} {g0 g1 : Value} {D : sm_D} {M : sm_M} {R : sm_S} (h : jT_kindOf_18 s0 D M = some R) : sm_WJ smT smCl smSa shC f152 1 18 [g0, g1] [.int s0] D M R := by
  have e : jT_kindOf_18 s0 D M = (sm_run shC smSa cal152 c152 false (fun a D M => some (a, D, M)) sm_noleaf 16 (c152.drop 10) [g0, g1] [.int s0] D M : Option (sm_S)) := rfl
  exact sm_blk (ρ := sm_S) (gd := (fun v => v = R)) (kx := 152) (i := 10) smVC rfl (by decide) ck152 (fun a D M v e1 e2 => by cases e1; exact e2.symm) (sm_noleaf_ok) rfl (e.symm.trans h) rfl
noncomputable def lf152_0 (D : sm_D) : Nat → List Value → List Value → sm_D → sm_M → Option (sm_S) := fun pc ls st D' M =>
  if pc = 18 then (match ls, st with
    | [gl0, gl1], [.int bs0] => (jT_kindOf_18 bs0 D' M)
    | _, _ => none)
  else none
theorem ll152_0 (D : sm_D) {R : sm_S} : ∀ (pc : Nat) (ls st : List Value) (D' : sm_D) (M : sm_M) (v : sm_S), (lf152_0 D) pc ls st D' M = some v → (fun v => v = R) v → sm_WJ smT smCl smSa shC f152 1 pc ls st D' M R := by
  intro pc ls st D' M v h hv
  unfold lf152_0 at h
  by_cases hp0 : pc = 18
  · subst hp0
    rw [if_pos (show (18 : Nat) = 18 from rfl)] at h
    split at h
    · skip
      have hv : v = R := hv
      subst hv
      exact w152_18  h
    · cases h
  · rw [if_neg hp0] at h
    cases h
set_option maxRecDepth 20000 in
set_option maxHeartbeats 4000000 in
theorem we152 {l1 : Int32} {D : sm_D} {M : sm_M} {R : sm_S} (h : jT_kindOf l1 D M = some R) : sm_WJ smT smCl smSa shC f152 1 0 [.ref 1, .int l1] [] D M R := by
  have e : jT_kindOf l1 D M = (sm_run shC smSa cal152 c152 false (fun a D M => some (a, D, M)) (lf152_0 D) 16 (c152.drop 0) [.ref 1, .int l1] [] D M : Option (sm_S)) := rfl
  exact sm_blk (ρ := sm_S) (gd := (fun v => v = R)) (kx := 152) (i := 0) smVC rfl (by decide) ck152 (fun a D M v e1 e2 => by cases e1; exact e2.symm) (ll152_0 D) rfl (e.symm.trans h) rfl
theorem m152 {l1 : Int32} {D : sm_D} {M : sm_M} {R : sm_S} (h : jT_kindOf l1 D M = some R) : sm_MJ smT smCl smSa shC f152 1 [.ref 1, .int l1] D M R :=
  sm_met (by decide) (Nat.le_of_ble_eq_true rfl) (List.all_eq_true.mp rfl) (we152  h)

-- jE_has
set_option maxRecDepth 20000 in
set_option maxHeartbeats 4000000 in
theorem w135_17 {s0 : Int32} {g0 g1 : Value} {D : sm_D} {M : sm_M} {R : sm_S} (h : jE_has_17 s0 D M = some R) : sm_WJ smT smCl smSa shC f135 0 17 [g0, g1] [.int s0] D M R := by
  have e : jE_has_17 s0 D M = (sm_run shC smSa sm_nocal c135 true (fun a D M => some (a, D, M)) sm_noleaf 15 (c135.drop 9) [g0, g1] [.int s0] D M : Option (sm_S)) := rfl
  exact sm_blk (ρ := sm_S) (gd := (fun v => v = R)) (kx := 135) (i := 9) smVC rfl (by decide) (sm_nocal_ok smT smCl smP smSa shC 0) (fun a D M v e1 e2 => by cases e1; exact e2.symm) (sm_noleaf_ok) rfl (e.symm.trans h) rfl
noncomputable def lf135_16 (D : sm_D) : Nat → List Value → List Value → sm_D → sm_M → Option (sm_S) := fun pc ls st D' M =>
  if pc = 17 then (match ls, st with
    | [gl0, gl1], [.int bs0] => (jE_has_17 bs0 D' M)
    | _, _ => none)
  else none
theorem ll135_16 (D : sm_D) {R : sm_S} : ∀ (pc : Nat) (ls st : List Value) (D' : sm_D) (M : sm_M) (v : sm_S), (lf135_16 D) pc ls st D' M = some v → (fun v => v = R) v → sm_WJ smT smCl smSa shC f135 0 pc ls st D' M R := by
  intro pc ls st D' M v h hv
  unfold lf135_16 at h
  by_cases hp0 : pc = 17
  · subst hp0
    rw [if_pos (show (17 : Nat) = 17 from rfl)] at h
    split at h
    · skip
      have hv : v = R := hv
      subst hv
      exact w135_17  h
    · cases h
  · rw [if_neg hp0] at h
    cases h
set_option maxRecDepth 20000 in
set_option maxHeartbeats 4000000 in
theorem w135_16 {g0 g1 : Value} {D : sm_D} {M : sm_M} {R : sm_S} (h : jE_has_16 D M = some R) : sm_WJ smT smCl smSa shC f135 0 16 [g0, g1] [] D M R := by
  have e : jE_has_16 D M = (sm_run shC smSa sm_nocal c135 true (fun a D M => some (a, D, M)) (lf135_16 D) 15 (c135.drop 8) [g0, g1] [] D M : Option (sm_S)) := rfl
  exact sm_blk (ρ := sm_S) (gd := (fun v => v = R)) (kx := 135) (i := 8) smVC rfl (by decide) (sm_nocal_ok smT smCl smP smSa shC 0) (fun a D M v e1 e2 => by cases e1; exact e2.symm) (ll135_16 D) rfl (e.symm.trans h) rfl
noncomputable def lf135_0 (D : sm_D) : Nat → List Value → List Value → sm_D → sm_M → Option (sm_S) := fun pc ls st D' M =>
  if pc = 16 then (match ls, st with
    | [gl0, gl1], [] => (jE_has_16 D' M)
    | _, _ => none)
  else if pc = 17 then (match ls, st with
    | [gl0, gl1], [.int bs0] => (jE_has_17 bs0 D' M)
    | _, _ => none)
  else none
theorem ll135_0 (D : sm_D) {R : sm_S} : ∀ (pc : Nat) (ls st : List Value) (D' : sm_D) (M : sm_M) (v : sm_S), (lf135_0 D) pc ls st D' M = some v → (fun v => v = R) v → sm_WJ smT smCl smSa shC f135 0 pc ls st D' M R := by
  intro pc ls st D' M v h hv
  unfold lf135_0 at h
  by_cases hp0 : pc = 16
  · subst hp0
    rw [if_pos (show (16 : Nat) = 16 from rfl)] at h
    split at h
    · skip
      have hv : v = R := hv
      subst hv
      exact w135_16  h
    · cases h
  · rw [if_neg hp0] at h
    by_cases hp0 : pc = 17
    · subst hp0
      rw [if_pos (show (17 : Nat) = 17 from rfl)] at h
      split at h
      · skip
        have hv : v = R := hv
        subst hv
        exact w135_17  h
      · cases h
    · rw [if_neg hp0] at h
      cases h
set_option maxRecDepth 20000 in
set_option maxHeartbeats 4000000 in
theorem we135 {l1 : Int32} {D : sm_D} {M : sm_M} {R : sm_S} (h : jE_has l1 D M = some R) : sm_WJ smT smCl smSa shC f135 0 0 [.ref 9, .int l1] [] D M R := by
  have e : jE_has l1 D M = (sm_run shC smSa sm_nocal c135 true (fun a D M => some (a, D, M)) (lf135_0 D) 15 (c135.drop 0) [.ref 9, .int l1] [] D M : Option (sm_S)) := rfl
  exact sm_blk (ρ := sm_S) (gd := (fun v => v = R)) (kx := 135) (i := 0) smVC rfl (by decide) (sm_nocal_ok smT smCl smP smSa shC 0) (fun a D M v e1 e2 => by cases e1; exact e2.symm) (ll135_0 D) rfl (e.symm.trans h) rfl
theorem m135 {l1 : Int32} {D : sm_D} {M : sm_M} {R : sm_S} (h : jE_has l1 D M = some R) : sm_MJ smT smCl smSa shC f135 0 [.ref 9, .int l1] D M R :=
  sm_met (by decide) (Nat.le_of_ble_eq_true rfl) (List.all_eq_true.mp rfl) (we135  h)

-- jX_max
theorem mx172 {d : Nat} {a b : Int32} {D : sm_D} {M : sm_M} {R : sm_S} (hd : 1 ≤ d) (h : jX_max a b D M = some R) : sm_mx d f172 [.int a, .int b] D M R := by
  refine ⟨hd, by decide +kernel, by decide +kernel, rfl, rfl, a, b, rfl, ?_⟩
  unfold jX_max at h
  split at h
  · rename_i hc
    rw [if_pos hc]
    cases h
    rfl
  · rename_i hc
    rw [if_neg hc]
    cases h
    rfl

-- jE_heightOver
noncomputable def cal137  : sm_Cal := fun x as D M =>
  if x = 135 then (match as with
    | [.ref 9, .int a1] => (jE_has a1 D M)
    | _ => none)
  else if x = 172 then (match as with
    | [.int a0, .int a1] => (jX_max a0 a1 D M)
    | _ => none)
  else none
theorem ck137  : sm_CalOk smT smCl smP smSa shC 1 cal137 := by
  intro x g as D M R hx h
  unfold cal137 at h
  by_cases hx' : x = 135
  · subst hx'
    rw [if_pos (show (135 : Nat) = 135 from rfl)] at h
    cases (show smP[135]? = some f135 from rfl).symm.trans hx
    split at h
    · skip
      exact Or.inl ⟨0, by omega, m135   h⟩
    · cases h
  · rw [if_neg hx'] at h
    by_cases hx' : x = 172
    · subst hx'
      rw [if_pos (show (172 : Nat) = 172 from rfl)] at h
      cases (show smP[172]? = some f172 from rfl).symm.trans hx
      split at h
      · skip
        exact Or.inr (mx172 (by decide) h)
      · cases h
    · rw [if_neg hx'] at h
      cases h
def lh137_6 (D : sm_D) (R : sm_S) (s : Int32 × Int32 × Int32 × Int32 × Int32 × Int32 × sm_M) : Prop := ∀ (g7 : Value), sm_WJ smT smCl smSa shC f137 1 6 [.ref 9, .int (s.1), .int (s.2.1), .int (s.2.2.1), .int (s.2.2.2.1), .int (s.2.2.2.2.1), .int (s.2.2.2.2.2.1), g7] [] D (s.2.2.2.2.2.2) R
def gd137_6 (D : sm_D) (R : sm_S) (v : (Int32 × Int32 × Int32 × Int32 × Int32 × Int32 × sm_M) ⊕ sm_S) : Prop := match v with
  | .inl s => lh137_6 D R s
  | .inr r => r = R
noncomputable def lf137_33 (D : sm_D) : Nat → List Value → List Value → sm_D → sm_M → Option ((Int32 × Int32 × Int32 × Int32 × Int32 × Int32 × sm_M) ⊕ sm_S) := fun pc ls st D' M =>
  if pc = 6 then (match ls, st with
    | [.ref 9, .int bl1, .int bl2, .int bl3, .int bl4, .int bl5, .int bl6, gl7], [] => (sm_dq D' D (some (.inl (bl1, bl2, bl3, bl4, bl5, bl6, M))))
    | _, _ => none)
  else none
theorem ll137_33 (D : sm_D) {R : sm_S} : ∀ (pc : Nat) (ls st : List Value) (D' : sm_D) (M : sm_M) (v : (Int32 × Int32 × Int32 × Int32 × Int32 × Int32 × sm_M) ⊕ sm_S), (lf137_33 D) pc ls st D' M = some v → (gd137_6 D R) v → sm_WJ smT smCl smSa shC f137 1 pc ls st D' M R := by
  intro pc ls st D' M v h hv
  unfold lf137_33 at h
  by_cases hp0 : pc = 6
  · subst hp0
    rw [if_pos (show (6 : Nat) = 6 from rfl)] at h
    split at h
    · skip
      replace h := sm_dq_inv h
      obtain ⟨he, h⟩ := h
      subst he
      cases h
      exact hv _
    · cases h
  · rw [if_neg hp0] at h
    cases h
set_option maxRecDepth 20000 in
set_option maxHeartbeats 4000000 in
theorem w137_33 (D : sm_D) {l1 l2 l3 l4 l5 l6 s0 : Int32} {g7 : Value} {M : sm_M} {R : sm_S} {v : (Int32 × Int32 × Int32 × Int32 × Int32 × Int32 × sm_M) ⊕ sm_S} (h : jE_heightOver_33 l1 l2 l3 l4 l5 l6 s0 D M = some v) (hv : (gd137_6 D R) v) : sm_WJ smT smCl smSa shC f137 1 33 [.ref 9, .int l1, .int l2, .int l3, .int l4, .int l5, .int l6, g7] [.int s0] D M R := by
  have e : jE_heightOver_33 l1 l2 l3 l4 l5 l6 s0 D M = (sm_run shC smSa cal137 c137 false (fun a D M => some (.inr (a, D, M))) (lf137_33 D) 42 (c137.drop 17) [.ref 9, .int l1, .int l2, .int l3, .int l4, .int l5, .int l6, g7] [.int s0] D M : Option ((Int32 × Int32 × Int32 × Int32 × Int32 × Int32 × sm_M) ⊕ sm_S)) := rfl
  exact sm_blk (ρ := (Int32 × Int32 × Int32 × Int32 × Int32 × Int32 × sm_M) ⊕ sm_S) (gd := (gd137_6 D R)) (kx := 137) (i := 17) smVC rfl (by decide) ck137 (fun a D M v e1 e2 => by cases e1; exact e2.symm) (ll137_33 D) rfl (e.symm.trans h) hv
noncomputable def lf137_6 (D : sm_D) : Nat → List Value → List Value → sm_D → sm_M → Option ((Int32 × Int32 × Int32 × Int32 × Int32 × Int32 × sm_M) ⊕ sm_S) := fun pc ls st D' M =>
  if pc = 33 then (match ls, st with
    | [.ref 9, .int bl1, .int bl2, .int bl3, .int bl4, .int bl5, .int bl6, gl7], [.int bs0] => (sm_dq D' D (jE_heightOver_33 bl1 bl2 bl3 bl4 bl5 bl6 bs0 D' M))
    | _, _ => none)
  else none
theorem ll137_6 (D : sm_D) {R : sm_S} : ∀ (pc : Nat) (ls st : List Value) (D' : sm_D) (M : sm_M) (v : (Int32 × Int32 × Int32 × Int32 × Int32 × Int32 × sm_M) ⊕ sm_S), (lf137_6 D) pc ls st D' M = some v → (gd137_6 D R) v → sm_WJ smT smCl smSa shC f137 1 pc ls st D' M R := by
  intro pc ls st D' M v h hv
  unfold lf137_6 at h
  by_cases hp0 : pc = 33
  · subst hp0
    rw [if_pos (show (33 : Nat) = 33 from rfl)] at h
    split at h
    · skip
      replace h := sm_dq_inv h
      obtain ⟨he, h⟩ := h
      subst he
      exact w137_33 _ h hv
    · cases h
  · rw [if_neg hp0] at h
    cases h
set_option maxRecDepth 20000 in
set_option maxHeartbeats 4000000 in
theorem wc137_6 (D : sm_D) {l1 l2 l3 l4 l5 l6 : Int32} {g7 : Value} {M : sm_M} {R : sm_S} {v : (Int32 × Int32 × Int32 × Int32 × Int32 × Int32 × sm_M) ⊕ sm_S} (h : jE_heightOver_6_c l1 l2 l3 l4 l5 l6 D M = some v) (hv : (gd137_6 D R) v) : sm_WJ smT smCl smSa shC f137 1 6 [.ref 9, .int l1, .int l2, .int l3, .int l4, .int l5, .int l6, g7] [] D M R := by
  have e : jE_heightOver_6_c l1 l2 l3 l4 l5 l6 D M = (sm_run shC smSa cal137 c137 false (fun a D M => some (.inr (a, D, M))) (lf137_6 D) 42 (c137.drop 4) [.ref 9, .int l1, .int l2, .int l3, .int l4, .int l5, .int l6, g7] [] D M : Option ((Int32 × Int32 × Int32 × Int32 × Int32 × Int32 × sm_M) ⊕ sm_S)) := rfl
  exact sm_blk (ρ := (Int32 × Int32 × Int32 × Int32 × Int32 × Int32 × sm_M) ⊕ sm_S) (gd := (gd137_6 D R)) (kx := 137) (i := 4) smVC rfl (by decide) ck137 (fun a D M v e1 e2 => by cases e1; exact e2.symm) (ll137_6 D) rfl (e.symm.trans h) hv
theorem w137_6 {l1 l2 l3 l4 l5 l6 : Int32} {g7 : Value} {D : sm_D} {M : sm_M} {R : sm_S} (h : jE_heightOver_6 l1 l2 l3 l4 l5 l6 D M = some R) : sm_WJ smT smCl smSa shC f137 1 6 [.ref 9, .int l1, .int l2, .int l3, .int l4, .int l5, .int l6, g7] [] D M R := by
  have hh : lh137_6 D R (l1, l2, l3, l4, l5, l6, M) := by
    refine sm_lp_ind (b := jE_heightOver_6_b D) (r := R) (lh137_6 D R) ?_ h
    intro s v hb h1 h2
    obtain ⟨z0, z1, z2, z3, z4, z5, M1⟩ := s
    have hv : gd137_6 D R v := by
      cases v with
      | inl s' => exact h1 s' rfl
      | inr r => exact h2 r rfl
    intro g7
    exact wc137_6 D hb hv
  exact hh _
noncomputable def lf137_0 (D : sm_D) : Nat → List Value → List Value → sm_D → sm_M → Option (sm_S) := fun pc ls st D' M =>
  if pc = 6 then (match ls, st with
    | [.ref 9, .int bl1, .int bl2, .int bl3, .int bl4, .int bl5, .int bl6, gl7], [] => (jE_heightOver_6 bl1 bl2 bl3 bl4 bl5 bl6 D' M)
    | _, _ => none)
  else none
theorem ll137_0 (D : sm_D) {R : sm_S} : ∀ (pc : Nat) (ls st : List Value) (D' : sm_D) (M : sm_M) (v : sm_S), (lf137_0 D) pc ls st D' M = some v → (fun v => v = R) v → sm_WJ smT smCl smSa shC f137 1 pc ls st D' M R := by
  intro pc ls st D' M v h hv
  unfold lf137_0 at h
  by_cases hp0 : pc = 6
  · subst hp0
    rw [if_pos (show (6 : Nat) = 6 from rfl)] at h
    split at h
    · skip
      have hv : v = R := hv
      subst hv
      exact w137_6  h
    · cases h
  · rw [if_neg hp0] at h
    cases h
set_option maxRecDepth 20000 in
set_option maxHeartbeats 4000000 in
theorem we137 {l1 l2 l3 l4 : Int32} {D : sm_D} {M : sm_M} {R : sm_S} (h : jE_heightOver l1 l2 l3 l4 D M = some R) : sm_WJ smT smCl smSa shC f137 1 0 [.ref 9, .int l1, .int l2, .int l3, .int l4, .retAddr 0, .retAddr 0, .retAddr 0] [] D M R := by
  have e : jE_heightOver l1 l2 l3 l4 D M = (sm_run shC smSa cal137 c137 false (fun a D M => some (a, D, M)) (lf137_0 D) 42 (c137.drop 0) [.ref 9, .int l1, .int l2, .int l3, .int l4, .retAddr 0, .retAddr 0, .retAddr 0] [] D M : Option (sm_S)) := rfl
  exact sm_blk (ρ := sm_S) (gd := (fun v => v = R)) (kx := 137) (i := 0) smVC rfl (by decide) ck137 (fun a D M v e1 e2 => by cases e1; exact e2.symm) (ll137_0 D) rfl (e.symm.trans h) rfl
theorem m137 {l1 l2 l3 l4 : Int32} {D : sm_D} {M : sm_M} {R : sm_S} (h : jE_heightOver l1 l2 l3 l4 D M = some R) : sm_MJ smT smCl smSa shC f137 1 [.ref 9, .int l1, .int l2, .int l3, .int l4] D M R :=
  sm_met (by decide) (Nat.le_of_ble_eq_true rfl) (List.all_eq_true.mp rfl) (we137  h)

-- jE_keep
noncomputable def cal136  : sm_Cal := fun x as D M =>
  if x = 137 then (match as with
    | [.ref 9, .int a1, .int a2, .int a3, .int a4] => (jE_heightOver a1 a2 a3 a4 D M)
    | _ => none)
  else none
theorem ck136  : sm_CalOk smT smCl smP smSa shC 2 cal136 := by
  intro x g as D M R hx h
  unfold cal136 at h
  by_cases hx' : x = 137
  · subst hx'
    rw [if_pos (show (137 : Nat) = 137 from rfl)] at h
    cases (show smP[137]? = some f137 from rfl).symm.trans hx
    split at h
    · skip
      exact Or.inl ⟨1, by omega, m137   h⟩
    · cases h
  · rw [if_neg hx'] at h
    cases h
set_option maxRecDepth 20000 in
set_option maxHeartbeats 4000000 in
theorem w136_19 {g0 g1 g2 g3 g4 g5 g6 : Value} {D : sm_D} {M : sm_M} {R : sm_S} (h : jE_keep_19 D M = some R) : sm_WJ smT smCl smSa shC f136 2 19 [g0, g1, g2, g3, g4, g5, g6] [] D M R := by
  have e : jE_keep_19 D M = (sm_run shC smSa cal136 c136 false (fun a D M => some (a, D, M)) sm_noleaf 90 (c136.drop 9) [g0, g1, g2, g3, g4, g5, g6] [] D M : Option (sm_S)) := rfl
  exact sm_blk (ρ := sm_S) (gd := (fun v => v = R)) (kx := 136) (i := 9) smVC rfl (by decide) ck136 (fun a D M v e1 e2 => by cases e1; exact e2.symm) (sm_noleaf_ok) rfl (e.symm.trans h) rfl
set_option maxRecDepth 20000 in
set_option maxHeartbeats 4000000 in
theorem w136_36 {g0 g1 g2 g3 g4 g5 g6 : Value} {D : sm_D} {M : sm_M} {R : sm_S} (h : jE_keep_36 D M = some R) : sm_WJ smT smCl smSa shC f136 2 36 [g0, g1, g2, g3, g4, g5, g6] [] D M R := by
  have e : jE_keep_36 D M = (sm_run shC smSa cal136 c136 false (fun a D M => some (a, D, M)) sm_noleaf 90 (c136.drop 19) [g0, g1, g2, g3, g4, g5, g6] [] D M : Option (sm_S)) := rfl
  exact sm_blk (ρ := sm_S) (gd := (fun v => v = R)) (kx := 136) (i := 19) smVC rfl (by decide) ck136 (fun a D M v e1 e2 => by cases e1; exact e2.symm) (sm_noleaf_ok) rfl (e.symm.trans h) rfl
set_option maxRecDepth 20000 in
set_option maxHeartbeats 4000000 in
theorem w136_67 {g0 g1 g2 g3 g4 g5 g6 : Value} {D : sm_D} {M : sm_M} {R : sm_S} (h : jE_keep_67 D M = some R) : sm_WJ smT smCl smSa shC f136 2 67 [g0, g1, g2, g3, g4, g5, g6] [] D M R := by
  have e : jE_keep_67 D M = (sm_run shC smSa cal136 c136 false (fun a D M => some (a, D, M)) sm_noleaf 90 (c136.drop 36) [g0, g1, g2, g3, g4, g5, g6] [] D M : Option (sm_S)) := rfl
  exact sm_blk (ρ := sm_S) (gd := (fun v => v = R)) (kx := 136) (i := 36) smVC rfl (by decide) ck136 (fun a D M v e1 e2 => by cases e1; exact e2.symm) (sm_noleaf_ok) rfl (e.symm.trans h) rfl
noncomputable def lf136_38 (D : sm_D) : Nat → List Value → List Value → sm_D → sm_M → Option (sm_S) := fun pc ls st D' M =>
  if pc = 67 then (match ls, st with
    | [gl0, gl1, gl2, gl3, gl4, gl5, gl6], [] => (jE_keep_67 D' M)
    | _, _ => none)
  else none
theorem ll136_38 (D : sm_D) {R : sm_S} : ∀ (pc : Nat) (ls st : List Value) (D' : sm_D) (M : sm_M) (v : sm_S), (lf136_38 D) pc ls st D' M = some v → (fun v => v = R) v → sm_WJ smT smCl smSa shC f136 2 pc ls st D' M R := by
  intro pc ls st D' M v h hv
  unfold lf136_38 at h
  by_cases hp0 : pc = 67
  · subst hp0
    rw [if_pos (show (67 : Nat) = 67 from rfl)] at h
    split at h
    · skip
      have hv : v = R := hv
      subst hv
      exact w136_67  h
    · cases h
  · rw [if_neg hp0] at h
    cases h
set_option maxRecDepth 20000 in
set_option maxHeartbeats 4000000 in
theorem w136_38 {l1 l2 l3 l4 l5 : Int32} {g6 : Value} {D : sm_D} {M : sm_M} {R : sm_S} (h : jE_keep_38 l1 l2 l3 l4 l5 D M = some R) : sm_WJ smT smCl smSa shC f136 2 38 [.ref 9, .int l1, .int l2, .int l3, .int l4, .int l5, g6] [] D M R := by
  have e : jE_keep_38 l1 l2 l3 l4 l5 D M = (sm_run shC smSa cal136 c136 false (fun a D M => some (a, D, M)) (lf136_38 D) 90 (c136.drop 21) [.ref 9, .int l1, .int l2, .int l3, .int l4, .int l5, g6] [] D M : Option (sm_S)) := rfl
  exact sm_blk (ρ := sm_S) (gd := (fun v => v = R)) (kx := 136) (i := 21) smVC rfl (by decide) ck136 (fun a D M v e1 e2 => by cases e1; exact e2.symm) (ll136_38 D) rfl (e.symm.trans h) rfl
noncomputable def lf136_0 (D : sm_D) : Nat → List Value → List Value → sm_D → sm_M → Option (sm_S) := fun pc ls st D' M =>
  if pc = 19 then (match ls, st with
    | [gl0, gl1, gl2, gl3, gl4, gl5, gl6], [] => (jE_keep_19 D' M)
    | _, _ => none)
  else if pc = 36 then (match ls, st with
    | [gl0, gl1, gl2, gl3, gl4, gl5, gl6], [] => (jE_keep_36 D' M)
    | _, _ => none)
  else if pc = 38 then (match ls, st with
    | [.ref 9, .int bl1, .int bl2, .int bl3, .int bl4, .int bl5, gl6], [] => (jE_keep_38 bl1 bl2 bl3 bl4 bl5 D' M)
    | _, _ => none)
  else none
theorem ll136_0 (D : sm_D) {R : sm_S} : ∀ (pc : Nat) (ls st : List Value) (D' : sm_D) (M : sm_M) (v : sm_S), (lf136_0 D) pc ls st D' M = some v → (fun v => v = R) v → sm_WJ smT smCl smSa shC f136 2 pc ls st D' M R := by
  intro pc ls st D' M v h hv
  unfold lf136_0 at h
  by_cases hp0 : pc = 19
  · subst hp0
    rw [if_pos (show (19 : Nat) = 19 from rfl)] at h
    split at h
    · skip
      have hv : v = R := hv
      subst hv
      exact w136_19  h
    · cases h
  · rw [if_neg hp0] at h
    by_cases hp0 : pc = 36
    · subst hp0
      rw [if_pos (show (36 : Nat) = 36 from rfl)] at h
      split at h
      · skip
        have hv : v = R := hv
        subst hv
        exact w136_36  h
      · cases h
    · rw [if_neg hp0] at h
      by_cases hp0 : pc = 38
      · subst hp0
        rw [if_pos (show (38 : Nat) = 38 from rfl)] at h
        split at h
        · skip
          have hv : v = R := hv
          subst hv
          exact w136_38  h
        · cases h
      · rw [if_neg hp0] at h
        cases h
set_option maxRecDepth 20000 in
set_option maxHeartbeats 4000000 in
theorem we136 {l1 l2 l3 l4 l5 : Int32} {D : sm_D} {M : sm_M} {R : sm_S} (h : jE_keep l1 l2 l3 l4 l5 D M = some R) : sm_WJ smT smCl smSa shC f136 2 0 [.ref 9, .int l1, .int l2, .int l3, .int l4, .int l5, .retAddr 0] [] D M R := by
  have e : jE_keep l1 l2 l3 l4 l5 D M = (sm_run shC smSa cal136 c136 false (fun a D M => some (a, D, M)) (lf136_0 D) 90 (c136.drop 0) [.ref 9, .int l1, .int l2, .int l3, .int l4, .int l5, .retAddr 0] [] D M : Option (sm_S)) := rfl
  exact sm_blk (ρ := sm_S) (gd := (fun v => v = R)) (kx := 136) (i := 0) smVC rfl (by decide) ck136 (fun a D M v e1 e2 => by cases e1; exact e2.symm) (ll136_0 D) rfl (e.symm.trans h) rfl
theorem m136 {l1 l2 l3 l4 l5 : Int32} {D : sm_D} {M : sm_M} {R : sm_S} (h : jE_keep l1 l2 l3 l4 l5 D M = some R) : sm_MJ smT smCl smSa shC f136 2 [.ref 9, .int l1, .int l2, .int l3, .int l4, .int l5] D M R :=
  sm_met (by decide) (Nat.le_of_ble_eq_true rfl) (List.all_eq_true.mp rfl) (we136  h)

-- jA_make
noncomputable def cal2  : sm_Cal := fun x as D M =>
  if x = 152 then (match as with
    | [.ref 1, .int a1] => (jT_kindOf a1 D M)
    | _ => none)
  else if x = 136 then (match as with
    | [.ref 9, .int a1, .int a2, .int a3, .int a4, .int a5] => (jE_keep a1 a2 a3 a4 a5 D M)
    | _ => none)
  else none
theorem ck2  : sm_CalOk smT smCl smP smSa shC 3 cal2 := by
  intro x g as D M R hx h
  unfold cal2 at h
  by_cases hx' : x = 152
  · subst hx'
    rw [if_pos (show (152 : Nat) = 152 from rfl)] at h
    cases (show smP[152]? = some f152 from rfl).symm.trans hx
    split at h
    · skip
      exact Or.inl ⟨1, by omega, m152   h⟩
    · cases h
  · rw [if_neg hx'] at h
    by_cases hx' : x = 136
    · subst hx'
      rw [if_pos (show (136 : Nat) = 136 from rfl)] at h
      cases (show smP[136]? = some f136 from rfl).symm.trans hx
      split at h
      · skip
        exact Or.inl ⟨2, by omega, m136   h⟩
      · cases h
    · rw [if_neg hx'] at h
      cases h
set_option maxRecDepth 20000 in
set_option maxHeartbeats 4000000 in
theorem w2_20 {l1 l2 l3 l4 l5 : Int32} {D : sm_D} {M : sm_M} {R : sm_S} (h : jA_make_20 l1 l2 l3 l4 l5 D M = some R) : sm_WJ smT smCl smSa shC f2 3 20 [.ref 60, .int l1, .int l2, .int l3, .int l4, .int l5] [] D M R := by
  have e : jA_make_20 l1 l2 l3 l4 l5 D M = (sm_run shC smSa cal2 c2 false (fun a D M => some (a, D, M)) sm_noleaf 25 (c2.drop 11) [.ref 60, .int l1, .int l2, .int l3, .int l4, .int l5] [] D M : Option (sm_S)) := rfl
  exact sm_blk (ρ := sm_S) (gd := (fun v => v = R)) (kx := 2) (i := 11) smVC rfl (by decide) ck2 (fun a D M v e1 e2 => by cases e1; exact e2.symm) (sm_noleaf_ok) rfl (e.symm.trans h) rfl
noncomputable def lf2_0 (D : sm_D) : Nat → List Value → List Value → sm_D → sm_M → Option (sm_S) := fun pc ls st D' M =>
  if pc = 20 then (match ls, st with
    | [.ref 60, .int bl1, .int bl2, .int bl3, .int bl4, .int bl5], [] => (jA_make_20 bl1 bl2 bl3 bl4 bl5 D' M)
    | _, _ => none)
  else none
theorem ll2_0 (D : sm_D) {R : sm_S} : ∀ (pc : Nat) (ls st : List Value) (D' : sm_D) (M : sm_M) (v : sm_S), (lf2_0 D) pc ls st D' M = some v → (fun v => v = R) v → sm_WJ smT smCl smSa shC f2 3 pc ls st D' M R := by
  intro pc ls st D' M v h hv
  unfold lf2_0 at h
  by_cases hp0 : pc = 20
  · subst hp0
    rw [if_pos (show (20 : Nat) = 20 from rfl)] at h
    split at h
    · skip
      have hv : v = R := hv
      subst hv
      exact w2_20  h
    · cases h
  · rw [if_neg hp0] at h
    cases h
set_option maxRecDepth 20000 in
set_option maxHeartbeats 4000000 in
theorem we2 {l1 l2 l3 l4 l5 : Int32} {D : sm_D} {M : sm_M} {R : sm_S} (h : jA_make l1 l2 l3 l4 l5 D M = some R) : sm_WJ smT smCl smSa shC f2 3 0 [.ref 60, .int l1, .int l2, .int l3, .int l4, .int l5] [] D M R := by
  have e : jA_make l1 l2 l3 l4 l5 D M = (sm_run shC smSa cal2 c2 false (fun a D M => some (a, D, M)) (lf2_0 D) 25 (c2.drop 0) [.ref 60, .int l1, .int l2, .int l3, .int l4, .int l5] [] D M : Option (sm_S)) := rfl
  exact sm_blk (ρ := sm_S) (gd := (fun v => v = R)) (kx := 2) (i := 0) smVC rfl (by decide) ck2 (fun a D M v e1 e2 => by cases e1; exact e2.symm) (ll2_0 D) rfl (e.symm.trans h) rfl
theorem m2 {l1 l2 l3 l4 l5 : Int32} {D : sm_D} {M : sm_M} {R : sm_S} (h : jA_make l1 l2 l3 l4 l5 D M = some R) : sm_MJ smT smCl smSa shC f2 3 [.ref 60, .int l1, .int l2, .int l3, .int l4, .int l5] D M R :=
  sm_met (by decide) (Nat.le_of_ble_eq_true rfl) (List.all_eq_true.mp rfl) (we2  h)

-- jY_ofChoice
noncomputable def cal167 (rec : Int32 → sm_D → sm_M → Option sm_S) : sm_Cal := fun x as D M =>
  if x = 165 then (match as with
    | [.ref 16, .int a1] => (rec a1 D M)
    | _ => none)
  else none
theorem ck167 (rec : Int32 → sm_D → sm_M → Option sm_S) (dr : Nat) (hrec : ∀ (l1 : Int32) (D : sm_D) (M : sm_M) (R : sm_S), rec l1 D M = some R → sm_MJ smT smCl smSa shC f165 dr [.ref 16, .int l1] D M R) : sm_CalOk smT smCl smP smSa shC (dr + 1) (cal167 rec) := by
  intro x g as D M R hx h
  unfold cal167 at h
  by_cases hx' : x = 165
  · subst hx'
    rw [if_pos (show (165 : Nat) = 165 from rfl)] at h
    cases (show smP[165]? = some f165 from rfl).symm.trans hx
    split at h
    · skip
      exact Or.inl ⟨dr, by omega, hrec _ _ _ _  h⟩
    · cases h
  · rw [if_neg hx'] at h
    cases h
set_option maxRecDepth 20000 in
set_option maxHeartbeats 4000000 in
theorem w167_59 (rec : Int32 → sm_D → sm_M → Option sm_S) (dr : Nat) (hrec : ∀ (l1 : Int32) (D : sm_D) (M : sm_M) (R : sm_S), rec l1 D M = some R → sm_MJ smT smCl smSa shC f165 dr [.ref 16, .int l1] D M R) {s0 : Int32} {g0 g1 g2 : Value} {D : sm_D} {M : sm_M} {R : sm_S} (h : jY_ofChoice_59 rec s0 D M = some R) : sm_WJ smT smCl smSa shC f167 (dr + 1) 59 [g0, g1, g2] [.int s0] D M R := by
  have e : jY_ofChoice_59 rec s0 D M = (sm_run shC smSa (cal167 rec) c167 false (fun a D M => some (a, D, M)) sm_noleaf 39 (c167.drop 33) [g0, g1, g2] [.int s0] D M : Option (sm_S)) := rfl
  exact sm_blk (ρ := sm_S) (gd := (fun v => v = R)) (kx := 167) (i := 33) smVC rfl (by decide) (ck167 rec dr hrec) (fun a D M v e1 e2 => by cases e1; exact e2.symm) (sm_noleaf_ok) rfl (e.symm.trans h) rfl
noncomputable def lf167_58 (rec : Int32 → sm_D → sm_M → Option sm_S) (D : sm_D) : Nat → List Value → List Value → sm_D → sm_M → Option (sm_S) := fun pc ls st D' M =>
  if pc = 59 then (match ls, st with
    | [gl0, gl1, gl2], [.int bs0] => (jY_ofChoice_59 rec bs0 D' M)
    | _, _ => none)
  else none
theorem ll167_58 (rec : Int32 → sm_D → sm_M → Option sm_S) (dr : Nat) (hrec : ∀ (l1 : Int32) (D : sm_D) (M : sm_M) (R : sm_S), rec l1 D M = some R → sm_MJ smT smCl smSa shC f165 dr [.ref 16, .int l1] D M R) (D : sm_D) {R : sm_S} : ∀ (pc : Nat) (ls st : List Value) (D' : sm_D) (M : sm_M) (v : sm_S), (lf167_58 rec D) pc ls st D' M = some v → (fun v => v = R) v → sm_WJ smT smCl smSa shC f167 (dr + 1) pc ls st D' M R := by
  intro pc ls st D' M v h hv
  unfold lf167_58 at h
  by_cases hp0 : pc = 59
  · subst hp0
    rw [if_pos (show (59 : Nat) = 59 from rfl)] at h
    split at h
    · skip
      have hv : v = R := hv
      subst hv
      exact w167_59 rec dr hrec h
    · cases h
  · rw [if_neg hp0] at h
    cases h
set_option maxRecDepth 20000 in
set_option maxHeartbeats 4000000 in
theorem w167_58 (rec : Int32 → sm_D → sm_M → Option sm_S) (dr : Nat) (hrec : ∀ (l1 : Int32) (D : sm_D) (M : sm_M) (R : sm_S), rec l1 D M = some R → sm_MJ smT smCl smSa shC f165 dr [.ref 16, .int l1] D M R) {g0 g1 g2 : Value} {D : sm_D} {M : sm_M} {R : sm_S} (h : jY_ofChoice_58 rec D M = some R) : sm_WJ smT smCl smSa shC f167 (dr + 1) 58 [g0, g1, g2] [] D M R := by
  have e : jY_ofChoice_58 rec D M = (sm_run shC smSa (cal167 rec) c167 false (fun a D M => some (a, D, M)) (lf167_58 rec D) 39 (c167.drop 32) [g0, g1, g2] [] D M : Option (sm_S)) := rfl
  exact sm_blk (ρ := sm_S) (gd := (fun v => v = R)) (kx := 167) (i := 32) smVC rfl (by decide) (ck167 rec dr hrec) (fun a D M v e1 e2 => by cases e1; exact e2.symm) (ll167_58 rec dr hrec D) rfl (e.symm.trans h) rfl
noncomputable def lf167_0 (rec : Int32 → sm_D → sm_M → Option sm_S) (D : sm_D) : Nat → List Value → List Value → sm_D → sm_M → Option (sm_S) := fun pc ls st D' M =>
  if pc = 58 then (match ls, st with
    | [gl0, gl1, gl2], [] => (jY_ofChoice_58 rec D' M)
    | _, _ => none)
  else if pc = 59 then (match ls, st with
    | [gl0, gl1, gl2], [.int bs0] => (jY_ofChoice_59 rec bs0 D' M)
    | _, _ => none)
  else none
theorem ll167_0 (rec : Int32 → sm_D → sm_M → Option sm_S) (dr : Nat) (hrec : ∀ (l1 : Int32) (D : sm_D) (M : sm_M) (R : sm_S), rec l1 D M = some R → sm_MJ smT smCl smSa shC f165 dr [.ref 16, .int l1] D M R) (D : sm_D) {R : sm_S} : ∀ (pc : Nat) (ls st : List Value) (D' : sm_D) (M : sm_M) (v : sm_S), (lf167_0 rec D) pc ls st D' M = some v → (fun v => v = R) v → sm_WJ smT smCl smSa shC f167 (dr + 1) pc ls st D' M R := by
  intro pc ls st D' M v h hv
  unfold lf167_0 at h
  by_cases hp0 : pc = 58
  · subst hp0
    rw [if_pos (show (58 : Nat) = 58 from rfl)] at h
    split at h
    · skip
      have hv : v = R := hv
      subst hv
      exact w167_58 rec dr hrec h
    · cases h
  · rw [if_neg hp0] at h
    by_cases hp0 : pc = 59
    · subst hp0
      rw [if_pos (show (59 : Nat) = 59 from rfl)] at h
      split at h
      · skip
        have hv : v = R := hv
        subst hv
        exact w167_59 rec dr hrec h
      · cases h
    · rw [if_neg hp0] at h
      cases h
set_option maxRecDepth 20000 in
set_option maxHeartbeats 4000000 in
theorem we167 (rec : Int32 → sm_D → sm_M → Option sm_S) (dr : Nat) (hrec : ∀ (l1 : Int32) (D : sm_D) (M : sm_M) (R : sm_S), rec l1 D M = some R → sm_MJ smT smCl smSa shC f165 dr [.ref 16, .int l1] D M R) {l1 : Int32} {D : sm_D} {M : sm_M} {R : sm_S} (h : jY_ofChoice rec l1 D M = some R) : sm_WJ smT smCl smSa shC f167 (dr + 1) 0 [.ref 16, .int l1, .retAddr 0] [] D M R := by
  have e : jY_ofChoice rec l1 D M = (sm_run shC smSa (cal167 rec) c167 false (fun a D M => some (a, D, M)) (lf167_0 rec D) 39 (c167.drop 0) [.ref 16, .int l1, .retAddr 0] [] D M : Option (sm_S)) := rfl
  exact sm_blk (ρ := sm_S) (gd := (fun v => v = R)) (kx := 167) (i := 0) smVC rfl (by decide) (ck167 rec dr hrec) (fun a D M v e1 e2 => by cases e1; exact e2.symm) (ll167_0 rec dr hrec D) rfl (e.symm.trans h) rfl
theorem m167 (rec : Int32 → sm_D → sm_M → Option sm_S) (dr : Nat) (hrec : ∀ (l1 : Int32) (D : sm_D) (M : sm_M) (R : sm_S), rec l1 D M = some R → sm_MJ smT smCl smSa shC f165 dr [.ref 16, .int l1] D M R) {l1 : Int32} {D : sm_D} {M : sm_M} {R : sm_S} (h : jY_ofChoice rec l1 D M = some R) : sm_MJ smT smCl smSa shC f167 (dr + 1) [.ref 16, .int l1] D M R :=
  sm_met (by decide) (Nat.le_of_ble_eq_true rfl) (List.all_eq_true.mp rfl) (we167 rec dr hrec h)

-- jT_firstOf
noncomputable def cal153  : sm_Cal := fun x as D M =>
  if x = 150 then (match as with
    | [.ref 1, .int a1] => (jT_has a1 D M)
    | _ => none)
  else none
theorem ck153  : sm_CalOk smT smCl smP smSa shC 1 cal153 := by
  intro x g as D M R hx h
  unfold cal153 at h
  by_cases hx' : x = 150
  · subst hx'
    rw [if_pos (show (150 : Nat) = 150 from rfl)] at h
    cases (show smP[150]? = some f150 from rfl).symm.trans hx
    split at h
    · skip
      exact Or.inl ⟨0, by omega, m150   h⟩
    · cases h
  · rw [if_neg hx'] at h
    cases h
set_option maxRecDepth 20000 in
set_option maxHeartbeats 4000000 in
theorem w153_18 {s0 : Int32} {g0 g1 : Value} {D : sm_D} {M : sm_M} {R : sm_S} (h : jT_firstOf_18 s0 D M = some R) : sm_WJ smT smCl smSa shC f153 1 18 [g0, g1] [.int s0] D M R := by
  have e : jT_firstOf_18 s0 D M = (sm_run shC smSa cal153 c153 false (fun a D M => some (a, D, M)) sm_noleaf 16 (c153.drop 10) [g0, g1] [.int s0] D M : Option (sm_S)) := rfl
  exact sm_blk (ρ := sm_S) (gd := (fun v => v = R)) (kx := 153) (i := 10) smVC rfl (by decide) ck153 (fun a D M v e1 e2 => by cases e1; exact e2.symm) (sm_noleaf_ok) rfl (e.symm.trans h) rfl
noncomputable def lf153_0 (D : sm_D) : Nat → List Value → List Value → sm_D → sm_M → Option (sm_S) := fun pc ls st D' M =>
  if pc = 18 then (match ls, st with
    | [gl0, gl1], [.int bs0] => (jT_firstOf_18 bs0 D' M)
    | _, _ => none)
  else none
theorem ll153_0 (D : sm_D) {R : sm_S} : ∀ (pc : Nat) (ls st : List Value) (D' : sm_D) (M : sm_M) (v : sm_S), (lf153_0 D) pc ls st D' M = some v → (fun v => v = R) v → sm_WJ smT smCl smSa shC f153 1 pc ls st D' M R := by
  intro pc ls st D' M v h hv
  unfold lf153_0 at h
  by_cases hp0 : pc = 18
  · subst hp0
    rw [if_pos (show (18 : Nat) = 18 from rfl)] at h
    split at h
    · skip
      have hv : v = R := hv
      subst hv
      exact w153_18  h
    · cases h
  · rw [if_neg hp0] at h
    cases h
set_option maxRecDepth 20000 in
set_option maxHeartbeats 4000000 in
theorem we153 {l1 : Int32} {D : sm_D} {M : sm_M} {R : sm_S} (h : jT_firstOf l1 D M = some R) : sm_WJ smT smCl smSa shC f153 1 0 [.ref 1, .int l1] [] D M R := by
  have e : jT_firstOf l1 D M = (sm_run shC smSa cal153 c153 false (fun a D M => some (a, D, M)) (lf153_0 D) 16 (c153.drop 0) [.ref 1, .int l1] [] D M : Option (sm_S)) := rfl
  exact sm_blk (ρ := sm_S) (gd := (fun v => v = R)) (kx := 153) (i := 0) smVC rfl (by decide) ck153 (fun a D M v e1 e2 => by cases e1; exact e2.symm) (ll153_0 D) rfl (e.symm.trans h) rfl
theorem m153 {l1 : Int32} {D : sm_D} {M : sm_M} {R : sm_S} (h : jT_firstOf l1 D M = some R) : sm_MJ smT smCl smSa shC f153 1 [.ref 1, .int l1] D M R :=
  sm_met (by decide) (Nat.le_of_ble_eq_true rfl) (List.all_eq_true.mp rfl) (we153  h)

-- jT_secondOf
noncomputable def cal154  : sm_Cal := fun x as D M =>
  if x = 150 then (match as with
    | [.ref 1, .int a1] => (jT_has a1 D M)
    | _ => none)
  else none
theorem ck154  : sm_CalOk smT smCl smP smSa shC 1 cal154 := by
  intro x g as D M R hx h
  unfold cal154 at h
  by_cases hx' : x = 150
  · subst hx'
    rw [if_pos (show (150 : Nat) = 150 from rfl)] at h
    cases (show smP[150]? = some f150 from rfl).symm.trans hx
    split at h
    · skip
      exact Or.inl ⟨0, by omega, m150   h⟩
    · cases h
  · rw [if_neg hx'] at h
    cases h
set_option maxRecDepth 20000 in
set_option maxHeartbeats 4000000 in
theorem w154_18 {s0 : Int32} {g0 g1 : Value} {D : sm_D} {M : sm_M} {R : sm_S} (h : jT_secondOf_18 s0 D M = some R) : sm_WJ smT smCl smSa shC f154 1 18 [g0, g1] [.int s0] D M R := by
  have e : jT_secondOf_18 s0 D M = (sm_run shC smSa cal154 c154 false (fun a D M => some (a, D, M)) sm_noleaf 16 (c154.drop 10) [g0, g1] [.int s0] D M : Option (sm_S)) := rfl
  exact sm_blk (ρ := sm_S) (gd := (fun v => v = R)) (kx := 154) (i := 10) smVC rfl (by decide) ck154 (fun a D M v e1 e2 => by cases e1; exact e2.symm) (sm_noleaf_ok) rfl (e.symm.trans h) rfl
noncomputable def lf154_0 (D : sm_D) : Nat → List Value → List Value → sm_D → sm_M → Option (sm_S) := fun pc ls st D' M =>
  if pc = 18 then (match ls, st with
    | [gl0, gl1], [.int bs0] => (jT_secondOf_18 bs0 D' M)
    | _, _ => none)
  else none
theorem ll154_0 (D : sm_D) {R : sm_S} : ∀ (pc : Nat) (ls st : List Value) (D' : sm_D) (M : sm_M) (v : sm_S), (lf154_0 D) pc ls st D' M = some v → (fun v => v = R) v → sm_WJ smT smCl smSa shC f154 1 pc ls st D' M R := by
  intro pc ls st D' M v h hv
  unfold lf154_0 at h
  by_cases hp0 : pc = 18
  · subst hp0
    rw [if_pos (show (18 : Nat) = 18 from rfl)] at h
    split at h
    · skip
      have hv : v = R := hv
      subst hv
      exact w154_18  h
    · cases h
  · rw [if_neg hp0] at h
    cases h
set_option maxRecDepth 20000 in
set_option maxHeartbeats 4000000 in
theorem we154 {l1 : Int32} {D : sm_D} {M : sm_M} {R : sm_S} (h : jT_secondOf l1 D M = some R) : sm_WJ smT smCl smSa shC f154 1 0 [.ref 1, .int l1] [] D M R := by
  have e : jT_secondOf l1 D M = (sm_run shC smSa cal154 c154 false (fun a D M => some (a, D, M)) (lf154_0 D) 16 (c154.drop 0) [.ref 1, .int l1] [] D M : Option (sm_S)) := rfl
  exact sm_blk (ρ := sm_S) (gd := (fun v => v = R)) (kx := 154) (i := 0) smVC rfl (by decide) ck154 (fun a D M v e1 e2 => by cases e1; exact e2.symm) (ll154_0 D) rfl (e.symm.trans h) rfl
theorem m154 {l1 : Int32} {D : sm_D} {M : sm_M} {R : sm_S} (h : jT_secondOf l1 D M = some R) : sm_MJ smT smCl smSa shC f154 1 [.ref 1, .int l1] D M R :=
  sm_met (by decide) (Nat.le_of_ble_eq_true rfl) (List.all_eq_true.mp rfl) (we154  h)

-- jY_ofLambda
noncomputable def cal168 (rec : Int32 → sm_D → sm_M → Option sm_S) : sm_Cal := fun x as D M =>
  if x = 153 then (match as with
    | [.ref 1, .int a1] => (jT_firstOf a1 D M)
    | _ => none)
  else if x = 165 then (match as with
    | [.ref 16, .int a1] => (rec a1 D M)
    | _ => none)
  else if x = 154 then (match as with
    | [.ref 1, .int a1] => (jT_secondOf a1 D M)
    | _ => none)
  else none
theorem ck168 (rec : Int32 → sm_D → sm_M → Option sm_S) (dr : Nat) (hrec : ∀ (l1 : Int32) (D : sm_D) (M : sm_M) (R : sm_S), rec l1 D M = some R → sm_MJ smT smCl smSa shC f165 dr [.ref 16, .int l1] D M R) : sm_CalOk smT smCl smP smSa shC (dr + 2) (cal168 rec) := by
  intro x g as D M R hx h
  unfold cal168 at h
  by_cases hx' : x = 153
  · subst hx'
    rw [if_pos (show (153 : Nat) = 153 from rfl)] at h
    cases (show smP[153]? = some f153 from rfl).symm.trans hx
    split at h
    · skip
      exact Or.inl ⟨1, by omega, m153   h⟩
    · cases h
  · rw [if_neg hx'] at h
    by_cases hx' : x = 165
    · subst hx'
      rw [if_pos (show (165 : Nat) = 165 from rfl)] at h
      cases (show smP[165]? = some f165 from rfl).symm.trans hx
      split at h
      · skip
        exact Or.inl ⟨dr, by omega, hrec _ _ _ _  h⟩
      · cases h
    · rw [if_neg hx'] at h
      by_cases hx' : x = 154
      · subst hx'
        rw [if_pos (show (154 : Nat) = 154 from rfl)] at h
        cases (show smP[154]? = some f154 from rfl).symm.trans hx
        split at h
        · skip
          exact Or.inl ⟨1, by omega, m154   h⟩
        · cases h
      · rw [if_neg hx'] at h
        cases h
set_option maxRecDepth 20000 in
set_option maxHeartbeats 4000000 in
theorem w168_106 (rec : Int32 → sm_D → sm_M → Option sm_S) (dr : Nat) (hrec : ∀ (l1 : Int32) (D : sm_D) (M : sm_M) (R : sm_S), rec l1 D M = some R → sm_MJ smT smCl smSa shC f165 dr [.ref 16, .int l1] D M R) {s0 : Int32} {g0 g1 g2 g3 : Value} {D : sm_D} {M : sm_M} {R : sm_S} (h : jY_ofLambda_106 rec s0 D M = some R) : sm_WJ smT smCl smSa shC f168 (dr + 2) 106 [g0, g1, g2, g3] [.int s0] D M R := by
  have e : jY_ofLambda_106 rec s0 D M = (sm_run shC smSa (cal168 rec) c168 false (fun a D M => some (a, D, M)) sm_noleaf 68 (c168.drop 62) [g0, g1, g2, g3] [.int s0] D M : Option (sm_S)) := rfl
  exact sm_blk (ρ := sm_S) (gd := (fun v => v = R)) (kx := 168) (i := 62) smVC rfl (by decide) (ck168 rec dr hrec) (fun a D M v e1 e2 => by cases e1; exact e2.symm) (sm_noleaf_ok) rfl (e.symm.trans h) rfl
noncomputable def lf168_0 (rec : Int32 → sm_D → sm_M → Option sm_S) (D : sm_D) : Nat → List Value → List Value → sm_D → sm_M → Option (sm_S) := fun pc ls st D' M =>
  if pc = 106 then (match ls, st with
    | [gl0, gl1, gl2, gl3], [.int bs0] => (jY_ofLambda_106 rec bs0 D' M)
    | _, _ => none)
  else none
theorem ll168_0 (rec : Int32 → sm_D → sm_M → Option sm_S) (dr : Nat) (hrec : ∀ (l1 : Int32) (D : sm_D) (M : sm_M) (R : sm_S), rec l1 D M = some R → sm_MJ smT smCl smSa shC f165 dr [.ref 16, .int l1] D M R) (D : sm_D) {R : sm_S} : ∀ (pc : Nat) (ls st : List Value) (D' : sm_D) (M : sm_M) (v : sm_S), (lf168_0 rec D) pc ls st D' M = some v → (fun v => v = R) v → sm_WJ smT smCl smSa shC f168 (dr + 2) pc ls st D' M R := by
  intro pc ls st D' M v h hv
  unfold lf168_0 at h
  by_cases hp0 : pc = 106
  · subst hp0
    rw [if_pos (show (106 : Nat) = 106 from rfl)] at h
    split at h
    · skip
      have hv : v = R := hv
      subst hv
      exact w168_106 rec dr hrec h
    · cases h
  · rw [if_neg hp0] at h
    cases h
set_option maxRecDepth 20000 in
set_option maxHeartbeats 4000000 in
theorem we168 (rec : Int32 → sm_D → sm_M → Option sm_S) (dr : Nat) (hrec : ∀ (l1 : Int32) (D : sm_D) (M : sm_M) (R : sm_S), rec l1 D M = some R → sm_MJ smT smCl smSa shC f165 dr [.ref 16, .int l1] D M R) {l1 : Int32} {D : sm_D} {M : sm_M} {R : sm_S} (h : jY_ofLambda rec l1 D M = some R) : sm_WJ smT smCl smSa shC f168 (dr + 2) 0 [.ref 16, .int l1, .retAddr 0, .retAddr 0] [] D M R := by
  have e : jY_ofLambda rec l1 D M = (sm_run shC smSa (cal168 rec) c168 false (fun a D M => some (a, D, M)) (lf168_0 rec D) 68 (c168.drop 0) [.ref 16, .int l1, .retAddr 0, .retAddr 0] [] D M : Option (sm_S)) := rfl
  exact sm_blk (ρ := sm_S) (gd := (fun v => v = R)) (kx := 168) (i := 0) smVC rfl (by decide) (ck168 rec dr hrec) (fun a D M v e1 e2 => by cases e1; exact e2.symm) (ll168_0 rec dr hrec D) rfl (e.symm.trans h) rfl
theorem m168 (rec : Int32 → sm_D → sm_M → Option sm_S) (dr : Nat) (hrec : ∀ (l1 : Int32) (D : sm_D) (M : sm_M) (R : sm_S), rec l1 D M = some R → sm_MJ smT smCl smSa shC f165 dr [.ref 16, .int l1] D M R) {l1 : Int32} {D : sm_D} {M : sm_M} {R : sm_S} (h : jY_ofLambda rec l1 D M = some R) : sm_MJ smT smCl smSa shC f168 (dr + 2) [.ref 16, .int l1] D M R :=
  sm_met (by decide) (Nat.le_of_ble_eq_true rfl) (List.all_eq_true.mp rfl) (we168 rec dr hrec h)

-- jY_ofCall
noncomputable def cal169 (rec : Int32 → sm_D → sm_M → Option sm_S) : sm_Cal := fun x as D M =>
  if x = 165 then (match as with
    | [.ref 16, .int a1] => (rec a1 D M)
    | _ => none)
  else if x = 152 then (match as with
    | [.ref 1, .int a1] => (jT_kindOf a1 D M)
    | _ => none)
  else if x = 153 then (match as with
    | [.ref 1, .int a1] => (jT_firstOf a1 D M)
    | _ => none)
  else if x = 154 then (match as with
    | [.ref 1, .int a1] => (jT_secondOf a1 D M)
    | _ => none)
  else none
theorem ck169 (rec : Int32 → sm_D → sm_M → Option sm_S) (dr : Nat) (hrec : ∀ (l1 : Int32) (D : sm_D) (M : sm_M) (R : sm_S), rec l1 D M = some R → sm_MJ smT smCl smSa shC f165 dr [.ref 16, .int l1] D M R) : sm_CalOk smT smCl smP smSa shC (dr + 2) (cal169 rec) := by
  intro x g as D M R hx h
  unfold cal169 at h
  by_cases hx' : x = 165
  · subst hx'
    rw [if_pos (show (165 : Nat) = 165 from rfl)] at h
    cases (show smP[165]? = some f165 from rfl).symm.trans hx
    split at h
    · skip
      exact Or.inl ⟨dr, by omega, hrec _ _ _ _  h⟩
    · cases h
  · rw [if_neg hx'] at h
    by_cases hx' : x = 152
    · subst hx'
      rw [if_pos (show (152 : Nat) = 152 from rfl)] at h
      cases (show smP[152]? = some f152 from rfl).symm.trans hx
      split at h
      · skip
        exact Or.inl ⟨1, by omega, m152   h⟩
      · cases h
    · rw [if_neg hx'] at h
      by_cases hx' : x = 153
      · subst hx'
        rw [if_pos (show (153 : Nat) = 153 from rfl)] at h
        cases (show smP[153]? = some f153 from rfl).symm.trans hx
        split at h
        · skip
          exact Or.inl ⟨1, by omega, m153   h⟩
        · cases h
      · rw [if_neg hx'] at h
        by_cases hx' : x = 154
        · subst hx'
          rw [if_pos (show (154 : Nat) = 154 from rfl)] at h
          cases (show smP[154]? = some f154 from rfl).symm.trans hx
          split at h
          · skip
            exact Or.inl ⟨1, by omega, m154   h⟩
          · cases h
        · rw [if_neg hx'] at h
          cases h
set_option maxRecDepth 20000 in
set_option maxHeartbeats 4000000 in
theorem w169_64 (rec : Int32 → sm_D → sm_M → Option sm_S) (dr : Nat) (hrec : ∀ (l1 : Int32) (D : sm_D) (M : sm_M) (R : sm_S), rec l1 D M = some R → sm_MJ smT smCl smSa shC f165 dr [.ref 16, .int l1] D M R) {s0 : Int32} {g0 g1 g2 : Value} {D : sm_D} {M : sm_M} {R : sm_S} (h : jY_ofCall_64 rec s0 D M = some R) : sm_WJ smT smCl smSa shC f169 (dr + 2) 64 [g0, g1, g2] [.int s0] D M R := by
  have e : jY_ofCall_64 rec s0 D M = (sm_run shC smSa (cal169 rec) c169 false (fun a D M => some (a, D, M)) sm_noleaf 40 (c169.drop 34) [g0, g1, g2] [.int s0] D M : Option (sm_S)) := rfl
  exact sm_blk (ρ := sm_S) (gd := (fun v => v = R)) (kx := 169) (i := 34) smVC rfl (by decide) (ck169 rec dr hrec) (fun a D M v e1 e2 => by cases e1; exact e2.symm) (sm_noleaf_ok) rfl (e.symm.trans h) rfl
noncomputable def lf169_0 (rec : Int32 → sm_D → sm_M → Option sm_S) (D : sm_D) : Nat → List Value → List Value → sm_D → sm_M → Option (sm_S) := fun pc ls st D' M =>
  if pc = 64 then (match ls, st with
    | [gl0, gl1, gl2], [.int bs0] => (jY_ofCall_64 rec bs0 D' M)
    | _, _ => none)
  else none
theorem ll169_0 (rec : Int32 → sm_D → sm_M → Option sm_S) (dr : Nat) (hrec : ∀ (l1 : Int32) (D : sm_D) (M : sm_M) (R : sm_S), rec l1 D M = some R → sm_MJ smT smCl smSa shC f165 dr [.ref 16, .int l1] D M R) (D : sm_D) {R : sm_S} : ∀ (pc : Nat) (ls st : List Value) (D' : sm_D) (M : sm_M) (v : sm_S), (lf169_0 rec D) pc ls st D' M = some v → (fun v => v = R) v → sm_WJ smT smCl smSa shC f169 (dr + 2) pc ls st D' M R := by
  intro pc ls st D' M v h hv
  unfold lf169_0 at h
  by_cases hp0 : pc = 64
  · subst hp0
    rw [if_pos (show (64 : Nat) = 64 from rfl)] at h
    split at h
    · skip
      have hv : v = R := hv
      subst hv
      exact w169_64 rec dr hrec h
    · cases h
  · rw [if_neg hp0] at h
    cases h
set_option maxRecDepth 20000 in
set_option maxHeartbeats 4000000 in
theorem we169 (rec : Int32 → sm_D → sm_M → Option sm_S) (dr : Nat) (hrec : ∀ (l1 : Int32) (D : sm_D) (M : sm_M) (R : sm_S), rec l1 D M = some R → sm_MJ smT smCl smSa shC f165 dr [.ref 16, .int l1] D M R) {l1 : Int32} {D : sm_D} {M : sm_M} {R : sm_S} (h : jY_ofCall rec l1 D M = some R) : sm_WJ smT smCl smSa shC f169 (dr + 2) 0 [.ref 16, .int l1, .retAddr 0] [] D M R := by
  have e : jY_ofCall rec l1 D M = (sm_run shC smSa (cal169 rec) c169 false (fun a D M => some (a, D, M)) (lf169_0 rec D) 40 (c169.drop 0) [.ref 16, .int l1, .retAddr 0] [] D M : Option (sm_S)) := rfl
  exact sm_blk (ρ := sm_S) (gd := (fun v => v = R)) (kx := 169) (i := 0) smVC rfl (by decide) (ck169 rec dr hrec) (fun a D M v e1 e2 => by cases e1; exact e2.symm) (ll169_0 rec dr hrec D) rfl (e.symm.trans h) rfl
theorem m169 (rec : Int32 → sm_D → sm_M → Option sm_S) (dr : Nat) (hrec : ∀ (l1 : Int32) (D : sm_D) (M : sm_M) (R : sm_S), rec l1 D M = some R → sm_MJ smT smCl smSa shC f165 dr [.ref 16, .int l1] D M R) {l1 : Int32} {D : sm_D} {M : sm_M} {R : sm_S} (h : jY_ofCall rec l1 D M = some R) : sm_MJ smT smCl smSa shC f169 (dr + 2) [.ref 16, .int l1] D M R :=
  sm_met (by decide) (Nat.le_of_ble_eq_true rfl) (List.all_eq_true.mp rfl) (we169 rec dr hrec h)

-- jY_ofPair
noncomputable def cal170 (rec : Int32 → sm_D → sm_M → Option sm_S) : sm_Cal := fun x as D M =>
  if x = 165 then (match as with
    | [.ref 16, .int a1] => (rec a1 D M)
    | _ => none)
  else if x = 159 then (match as with
    | [.ref 1, .int a1, .int a2, .int a3, .int a4] => (jT_find a1 a2 a3 a4 D M)
    | _ => none)
  else none
theorem ck170 (rec : Int32 → sm_D → sm_M → Option sm_S) (dr : Nat) (hrec : ∀ (l1 : Int32) (D : sm_D) (M : sm_M) (R : sm_S), rec l1 D M = some R → sm_MJ smT smCl smSa shC f165 dr [.ref 16, .int l1] D M R) : sm_CalOk smT smCl smP smSa shC (dr + 2) (cal170 rec) := by
  intro x g as D M R hx h
  unfold cal170 at h
  by_cases hx' : x = 165
  · subst hx'
    rw [if_pos (show (165 : Nat) = 165 from rfl)] at h
    cases (show smP[165]? = some f165 from rfl).symm.trans hx
    split at h
    · skip
      exact Or.inl ⟨dr, by omega, hrec _ _ _ _  h⟩
    · cases h
  · rw [if_neg hx'] at h
    by_cases hx' : x = 159
    · subst hx'
      rw [if_pos (show (159 : Nat) = 159 from rfl)] at h
      cases (show smP[159]? = some f159 from rfl).symm.trans hx
      split at h
      · skip
        exact Or.inl ⟨1, by omega, m159   h⟩
      · cases h
    · rw [if_neg hx'] at h
      cases h
set_option maxRecDepth 20000 in
set_option maxHeartbeats 4000000 in
theorem w170_55 (rec : Int32 → sm_D → sm_M → Option sm_S) (dr : Nat) (hrec : ∀ (l1 : Int32) (D : sm_D) (M : sm_M) (R : sm_S), rec l1 D M = some R → sm_MJ smT smCl smSa shC f165 dr [.ref 16, .int l1] D M R) {s0 : Int32} {g0 g1 g2 g3 : Value} {D : sm_D} {M : sm_M} {R : sm_S} (h : jY_ofPair_55 rec s0 D M = some R) : sm_WJ smT smCl smSa shC f170 (dr + 2) 55 [g0, g1, g2, g3] [.int s0] D M R := by
  have e : jY_ofPair_55 rec s0 D M = (sm_run shC smSa (cal170 rec) c170 false (fun a D M => some (a, D, M)) sm_noleaf 39 (c170.drop 33) [g0, g1, g2, g3] [.int s0] D M : Option (sm_S)) := rfl
  exact sm_blk (ρ := sm_S) (gd := (fun v => v = R)) (kx := 170) (i := 33) smVC rfl (by decide) (ck170 rec dr hrec) (fun a D M v e1 e2 => by cases e1; exact e2.symm) (sm_noleaf_ok) rfl (e.symm.trans h) rfl
noncomputable def lf170_0 (rec : Int32 → sm_D → sm_M → Option sm_S) (D : sm_D) : Nat → List Value → List Value → sm_D → sm_M → Option (sm_S) := fun pc ls st D' M =>
  if pc = 55 then (match ls, st with
    | [gl0, gl1, gl2, gl3], [.int bs0] => (jY_ofPair_55 rec bs0 D' M)
    | _, _ => none)
  else none
theorem ll170_0 (rec : Int32 → sm_D → sm_M → Option sm_S) (dr : Nat) (hrec : ∀ (l1 : Int32) (D : sm_D) (M : sm_M) (R : sm_S), rec l1 D M = some R → sm_MJ smT smCl smSa shC f165 dr [.ref 16, .int l1] D M R) (D : sm_D) {R : sm_S} : ∀ (pc : Nat) (ls st : List Value) (D' : sm_D) (M : sm_M) (v : sm_S), (lf170_0 rec D) pc ls st D' M = some v → (fun v => v = R) v → sm_WJ smT smCl smSa shC f170 (dr + 2) pc ls st D' M R := by
  intro pc ls st D' M v h hv
  unfold lf170_0 at h
  by_cases hp0 : pc = 55
  · subst hp0
    rw [if_pos (show (55 : Nat) = 55 from rfl)] at h
    split at h
    · skip
      have hv : v = R := hv
      subst hv
      exact w170_55 rec dr hrec h
    · cases h
  · rw [if_neg hp0] at h
    cases h
set_option maxRecDepth 20000 in
set_option maxHeartbeats 4000000 in
theorem we170 (rec : Int32 → sm_D → sm_M → Option sm_S) (dr : Nat) (hrec : ∀ (l1 : Int32) (D : sm_D) (M : sm_M) (R : sm_S), rec l1 D M = some R → sm_MJ smT smCl smSa shC f165 dr [.ref 16, .int l1] D M R) {l1 : Int32} {D : sm_D} {M : sm_M} {R : sm_S} (h : jY_ofPair rec l1 D M = some R) : sm_WJ smT smCl smSa shC f170 (dr + 2) 0 [.ref 16, .int l1, .retAddr 0, .retAddr 0] [] D M R := by
  have e : jY_ofPair rec l1 D M = (sm_run shC smSa (cal170 rec) c170 false (fun a D M => some (a, D, M)) (lf170_0 rec D) 39 (c170.drop 0) [.ref 16, .int l1, .retAddr 0, .retAddr 0] [] D M : Option (sm_S)) := rfl
  exact sm_blk (ρ := sm_S) (gd := (fun v => v = R)) (kx := 170) (i := 0) smVC rfl (by decide) (ck170 rec dr hrec) (fun a D M v e1 e2 => by cases e1; exact e2.symm) (ll170_0 rec dr hrec D) rfl (e.symm.trans h) rfl
theorem m170 (rec : Int32 → sm_D → sm_M → Option sm_S) (dr : Nat) (hrec : ∀ (l1 : Int32) (D : sm_D) (M : sm_M) (R : sm_S), rec l1 D M = some R → sm_MJ smT smCl smSa shC f165 dr [.ref 16, .int l1] D M R) {l1 : Int32} {D : sm_D} {M : sm_M} {R : sm_S} (h : jY_ofPair rec l1 D M = some R) : sm_MJ smT smCl smSa shC f170 (dr + 2) [.ref 16, .int l1] D M R :=
  sm_met (by decide) (Nat.le_of_ble_eq_true rfl) (List.all_eq_true.mp rfl) (we170 rec dr hrec h)

-- jY_ofPart
noncomputable def cal171 (rec : Int32 → sm_D → sm_M → Option sm_S) : sm_Cal := fun x as D M =>
  if x = 165 then (match as with
    | [.ref 16, .int a1] => (rec a1 D M)
    | _ => none)
  else if x = 152 then (match as with
    | [.ref 1, .int a1] => (jT_kindOf a1 D M)
    | _ => none)
  else if x = 153 then (match as with
    | [.ref 1, .int a1] => (jT_firstOf a1 D M)
    | _ => none)
  else if x = 154 then (match as with
    | [.ref 1, .int a1] => (jT_secondOf a1 D M)
    | _ => none)
  else none
theorem ck171 (rec : Int32 → sm_D → sm_M → Option sm_S) (dr : Nat) (hrec : ∀ (l1 : Int32) (D : sm_D) (M : sm_M) (R : sm_S), rec l1 D M = some R → sm_MJ smT smCl smSa shC f165 dr [.ref 16, .int l1] D M R) : sm_CalOk smT smCl smP smSa shC (dr + 2) (cal171 rec) := by
  intro x g as D M R hx h
  unfold cal171 at h
  by_cases hx' : x = 165
  · subst hx'
    rw [if_pos (show (165 : Nat) = 165 from rfl)] at h
    cases (show smP[165]? = some f165 from rfl).symm.trans hx
    split at h
    · skip
      exact Or.inl ⟨dr, by omega, hrec _ _ _ _  h⟩
    · cases h
  · rw [if_neg hx'] at h
    by_cases hx' : x = 152
    · subst hx'
      rw [if_pos (show (152 : Nat) = 152 from rfl)] at h
      cases (show smP[152]? = some f152 from rfl).symm.trans hx
      split at h
      · skip
        exact Or.inl ⟨1, by omega, m152   h⟩
      · cases h
    · rw [if_neg hx'] at h
      by_cases hx' : x = 153
      · subst hx'
        rw [if_pos (show (153 : Nat) = 153 from rfl)] at h
        cases (show smP[153]? = some f153 from rfl).symm.trans hx
        split at h
        · skip
          exact Or.inl ⟨1, by omega, m153   h⟩
        · cases h
      · rw [if_neg hx'] at h
        by_cases hx' : x = 154
        · subst hx'
          rw [if_pos (show (154 : Nat) = 154 from rfl)] at h
          cases (show smP[154]? = some f154 from rfl).symm.trans hx
          split at h
          · skip
            exact Or.inl ⟨1, by omega, m154   h⟩
          · cases h
        · rw [if_neg hx'] at h
          cases h
set_option maxRecDepth 20000 in
set_option maxHeartbeats 4000000 in
theorem w171_61 (rec : Int32 → sm_D → sm_M → Option sm_S) (dr : Nat) (hrec : ∀ (l1 : Int32) (D : sm_D) (M : sm_M) (R : sm_S), rec l1 D M = some R → sm_MJ smT smCl smSa shC f165 dr [.ref 16, .int l1] D M R) {s0 : Int32} {g0 g1 g2 : Value} {D : sm_D} {M : sm_M} {R : sm_S} (h : jY_ofPart_61 rec s0 D M = some R) : sm_WJ smT smCl smSa shC f171 (dr + 2) 61 [g0, g1, g2] [.int s0] D M R := by
  have e : jY_ofPart_61 rec s0 D M = (sm_run shC smSa (cal171 rec) c171 false (fun a D M => some (a, D, M)) sm_noleaf 38 (c171.drop 32) [g0, g1, g2] [.int s0] D M : Option (sm_S)) := rfl
  exact sm_blk (ρ := sm_S) (gd := (fun v => v = R)) (kx := 171) (i := 32) smVC rfl (by decide) (ck171 rec dr hrec) (fun a D M v e1 e2 => by cases e1; exact e2.symm) (sm_noleaf_ok) rfl (e.symm.trans h) rfl
noncomputable def lf171_0 (rec : Int32 → sm_D → sm_M → Option sm_S) (D : sm_D) : Nat → List Value → List Value → sm_D → sm_M → Option (sm_S) := fun pc ls st D' M =>
  if pc = 61 then (match ls, st with
    | [gl0, gl1, gl2], [.int bs0] => (jY_ofPart_61 rec bs0 D' M)
    | _, _ => none)
  else none
theorem ll171_0 (rec : Int32 → sm_D → sm_M → Option sm_S) (dr : Nat) (hrec : ∀ (l1 : Int32) (D : sm_D) (M : sm_M) (R : sm_S), rec l1 D M = some R → sm_MJ smT smCl smSa shC f165 dr [.ref 16, .int l1] D M R) (D : sm_D) {R : sm_S} : ∀ (pc : Nat) (ls st : List Value) (D' : sm_D) (M : sm_M) (v : sm_S), (lf171_0 rec D) pc ls st D' M = some v → (fun v => v = R) v → sm_WJ smT smCl smSa shC f171 (dr + 2) pc ls st D' M R := by
  intro pc ls st D' M v h hv
  unfold lf171_0 at h
  by_cases hp0 : pc = 61
  · subst hp0
    rw [if_pos (show (61 : Nat) = 61 from rfl)] at h
    split at h
    · skip
      have hv : v = R := hv
      subst hv
      exact w171_61 rec dr hrec h
    · cases h
  · rw [if_neg hp0] at h
    cases h
set_option maxRecDepth 20000 in
set_option maxHeartbeats 4000000 in
theorem we171 (rec : Int32 → sm_D → sm_M → Option sm_S) (dr : Nat) (hrec : ∀ (l1 : Int32) (D : sm_D) (M : sm_M) (R : sm_S), rec l1 D M = some R → sm_MJ smT smCl smSa shC f165 dr [.ref 16, .int l1] D M R) {l1 : Int32} {D : sm_D} {M : sm_M} {R : sm_S} (h : jY_ofPart rec l1 D M = some R) : sm_WJ smT smCl smSa shC f171 (dr + 2) 0 [.ref 16, .int l1, .retAddr 0] [] D M R := by
  have e : jY_ofPart rec l1 D M = (sm_run shC smSa (cal171 rec) c171 false (fun a D M => some (a, D, M)) (lf171_0 rec D) 38 (c171.drop 0) [.ref 16, .int l1, .retAddr 0] [] D M : Option (sm_S)) := rfl
  exact sm_blk (ρ := sm_S) (gd := (fun v => v = R)) (kx := 171) (i := 0) smVC rfl (by decide) (ck171 rec dr hrec) (fun a D M v e1 e2 => by cases e1; exact e2.symm) (ll171_0 rec dr hrec D) rfl (e.symm.trans h) rfl
theorem m171 (rec : Int32 → sm_D → sm_M → Option sm_S) (dr : Nat) (hrec : ∀ (l1 : Int32) (D : sm_D) (M : sm_M) (R : sm_S), rec l1 D M = some R → sm_MJ smT smCl smSa shC f165 dr [.ref 16, .int l1] D M R) {l1 : Int32} {D : sm_D} {M : sm_M} {R : sm_S} (h : jY_ofPart rec l1 D M = some R) : sm_MJ smT smCl smSa shC f171 (dr + 2) [.ref 16, .int l1] D M R :=
  sm_met (by decide) (Nat.le_of_ble_eq_true rfl) (List.all_eq_true.mp rfl) (we171 rec dr hrec h)

-- jY_ofReckoning
noncomputable def cal166 (rec : Int32 → sm_D → sm_M → Option sm_S) : sm_Cal := fun x as D M =>
  if x = 165 then (match as with
    | [.ref 16, .int a1] => (rec a1 D M)
    | _ => none)
  else none
theorem ck166 (rec : Int32 → sm_D → sm_M → Option sm_S) (dr : Nat) (hrec : ∀ (l1 : Int32) (D : sm_D) (M : sm_M) (R : sm_S), rec l1 D M = some R → sm_MJ smT smCl smSa shC f165 dr [.ref 16, .int l1] D M R) : sm_CalOk smT smCl smP smSa shC (dr + 1) (cal166 rec) := by
  intro x g as D M R hx h
  unfold cal166 at h
  by_cases hx' : x = 165
  · subst hx'
    rw [if_pos (show (165 : Nat) = 165 from rfl)] at h
    cases (show smP[165]? = some f165 from rfl).symm.trans hx
    split at h
    · skip
      exact Or.inl ⟨dr, by omega, hrec _ _ _ _  h⟩
    · cases h
  · rw [if_neg hx'] at h
    cases h
set_option maxRecDepth 20000 in
set_option maxHeartbeats 4000000 in
theorem w166_47 (rec : Int32 → sm_D → sm_M → Option sm_S) (dr : Nat) (hrec : ∀ (l1 : Int32) (D : sm_D) (M : sm_M) (R : sm_S), rec l1 D M = some R → sm_MJ smT smCl smSa shC f165 dr [.ref 16, .int l1] D M R) {s0 : Int32} {g0 g1 g2 : Value} {D : sm_D} {M : sm_M} {R : sm_S} (h : jY_ofReckoning_47 rec s0 D M = some R) : sm_WJ smT smCl smSa shC f166 (dr + 1) 47 [g0, g1, g2] [.int s0] D M R := by
  have e : jY_ofReckoning_47 rec s0 D M = (sm_run shC smSa (cal166 rec) c166 false (fun a D M => some (a, D, M)) sm_noleaf 31 (c166.drop 25) [g0, g1, g2] [.int s0] D M : Option (sm_S)) := rfl
  exact sm_blk (ρ := sm_S) (gd := (fun v => v = R)) (kx := 166) (i := 25) smVC rfl (by decide) (ck166 rec dr hrec) (fun a D M v e1 e2 => by cases e1; exact e2.symm) (sm_noleaf_ok) rfl (e.symm.trans h) rfl
noncomputable def lf166_37 (rec : Int32 → sm_D → sm_M → Option sm_S) (D : sm_D) : Nat → List Value → List Value → sm_D → sm_M → Option (sm_S) := fun pc ls st D' M =>
  if pc = 47 then (match ls, st with
    | [gl0, gl1, gl2], [.int bs0] => (jY_ofReckoning_47 rec bs0 D' M)
    | _, _ => none)
  else none
theorem ll166_37 (rec : Int32 → sm_D → sm_M → Option sm_S) (dr : Nat) (hrec : ∀ (l1 : Int32) (D : sm_D) (M : sm_M) (R : sm_S), rec l1 D M = some R → sm_MJ smT smCl smSa shC f165 dr [.ref 16, .int l1] D M R) (D : sm_D) {R : sm_S} : ∀ (pc : Nat) (ls st : List Value) (D' : sm_D) (M : sm_M) (v : sm_S), (lf166_37 rec D) pc ls st D' M = some v → (fun v => v = R) v → sm_WJ smT smCl smSa shC f166 (dr + 1) pc ls st D' M R := by
  intro pc ls st D' M v h hv
  unfold lf166_37 at h
  by_cases hp0 : pc = 47
  · subst hp0
    rw [if_pos (show (47 : Nat) = 47 from rfl)] at h
    split at h
    · skip
      have hv : v = R := hv
      subst hv
      exact w166_47 rec dr hrec h
    · cases h
  · rw [if_neg hp0] at h
    cases h
set_option maxRecDepth 20000 in
set_option maxHeartbeats 4000000 in
theorem w166_37 (rec : Int32 → sm_D → sm_M → Option sm_S) (dr : Nat) (hrec : ∀ (l1 : Int32) (D : sm_D) (M : sm_M) (R : sm_S), rec l1 D M = some R → sm_MJ smT smCl smSa shC f165 dr [.ref 16, .int l1] D M R) {s0 : Int32} {g0 g1 g2 : Value} {D : sm_D} {M : sm_M} {R : sm_S} (h : jY_ofReckoning_37 rec s0 D M = some R) : sm_WJ smT smCl smSa shC f166 (dr + 1) 37 [g0, g1, g2] [.int s0] D M R := by
  have e : jY_ofReckoning_37 rec s0 D M = (sm_run shC smSa (cal166 rec) c166 false (fun a D M => some (a, D, M)) (lf166_37 rec D) 31 (c166.drop 19) [g0, g1, g2] [.int s0] D M : Option (sm_S)) := rfl
  exact sm_blk (ρ := sm_S) (gd := (fun v => v = R)) (kx := 166) (i := 19) smVC rfl (by decide) (ck166 rec dr hrec) (fun a D M v e1 e2 => by cases e1; exact e2.symm) (ll166_37 rec dr hrec D) rfl (e.symm.trans h) rfl
noncomputable def lf166_36 (rec : Int32 → sm_D → sm_M → Option sm_S) (D : sm_D) : Nat → List Value → List Value → sm_D → sm_M → Option (sm_S) := fun pc ls st D' M =>
  if pc = 37 then (match ls, st with
    | [gl0, gl1, gl2], [.int bs0] => (jY_ofReckoning_37 rec bs0 D' M)
    | _, _ => none)
  else none
theorem ll166_36 (rec : Int32 → sm_D → sm_M → Option sm_S) (dr : Nat) (hrec : ∀ (l1 : Int32) (D : sm_D) (M : sm_M) (R : sm_S), rec l1 D M = some R → sm_MJ smT smCl smSa shC f165 dr [.ref 16, .int l1] D M R) (D : sm_D) {R : sm_S} : ∀ (pc : Nat) (ls st : List Value) (D' : sm_D) (M : sm_M) (v : sm_S), (lf166_36 rec D) pc ls st D' M = some v → (fun v => v = R) v → sm_WJ smT smCl smSa shC f166 (dr + 1) pc ls st D' M R := by
  intro pc ls st D' M v h hv
  unfold lf166_36 at h
  by_cases hp0 : pc = 37
  · subst hp0
    rw [if_pos (show (37 : Nat) = 37 from rfl)] at h
    split at h
    · skip
      have hv : v = R := hv
      subst hv
      exact w166_37 rec dr hrec h
    · cases h
  · rw [if_neg hp0] at h
    cases h
set_option maxRecDepth 20000 in
set_option maxHeartbeats 4000000 in
theorem w166_36 (rec : Int32 → sm_D → sm_M → Option sm_S) (dr : Nat) (hrec : ∀ (l1 : Int32) (D : sm_D) (M : sm_M) (R : sm_S), rec l1 D M = some R → sm_MJ smT smCl smSa shC f165 dr [.ref 16, .int l1] D M R) {g0 g1 g2 : Value} {D : sm_D} {M : sm_M} {R : sm_S} (h : jY_ofReckoning_36 rec D M = some R) : sm_WJ smT smCl smSa shC f166 (dr + 1) 36 [g0, g1, g2] [] D M R := by
  have e : jY_ofReckoning_36 rec D M = (sm_run shC smSa (cal166 rec) c166 false (fun a D M => some (a, D, M)) (lf166_36 rec D) 31 (c166.drop 18) [g0, g1, g2] [] D M : Option (sm_S)) := rfl
  exact sm_blk (ρ := sm_S) (gd := (fun v => v = R)) (kx := 166) (i := 18) smVC rfl (by decide) (ck166 rec dr hrec) (fun a D M v e1 e2 => by cases e1; exact e2.symm) (ll166_36 rec dr hrec D) rfl (e.symm.trans h) rfl
noncomputable def lf166_0 (rec : Int32 → sm_D → sm_M → Option sm_S) (D : sm_D) : Nat → List Value → List Value → sm_D → sm_M → Option (sm_S) := fun pc ls st D' M =>
  if pc = 36 then (match ls, st with
    | [gl0, gl1, gl2], [] => (jY_ofReckoning_36 rec D' M)
    | _, _ => none)
  else if pc = 37 then (match ls, st with
    | [gl0, gl1, gl2], [.int bs0] => (jY_ofReckoning_37 rec bs0 D' M)
    | _, _ => none)
  else none
theorem ll166_0 (rec : Int32 → sm_D → sm_M → Option sm_S) (dr : Nat) (hrec : ∀ (l1 : Int32) (D : sm_D) (M : sm_M) (R : sm_S), rec l1 D M = some R → sm_MJ smT smCl smSa shC f165 dr [.ref 16, .int l1] D M R) (D : sm_D) {R : sm_S} : ∀ (pc : Nat) (ls st : List Value) (D' : sm_D) (M : sm_M) (v : sm_S), (lf166_0 rec D) pc ls st D' M = some v → (fun v => v = R) v → sm_WJ smT smCl smSa shC f166 (dr + 1) pc ls st D' M R := by
  intro pc ls st D' M v h hv
  unfold lf166_0 at h
  by_cases hp0 : pc = 36
  · subst hp0
    rw [if_pos (show (36 : Nat) = 36 from rfl)] at h
    split at h
    · skip
      have hv : v = R := hv
      subst hv
      exact w166_36 rec dr hrec h
    · cases h
  · rw [if_neg hp0] at h
    by_cases hp0 : pc = 37
    · subst hp0
      rw [if_pos (show (37 : Nat) = 37 from rfl)] at h
      split at h
      · skip
        have hv : v = R := hv
        subst hv
        exact w166_37 rec dr hrec h
      · cases h
    · rw [if_neg hp0] at h
      cases h
set_option maxRecDepth 20000 in
set_option maxHeartbeats 4000000 in
theorem we166 (rec : Int32 → sm_D → sm_M → Option sm_S) (dr : Nat) (hrec : ∀ (l1 : Int32) (D : sm_D) (M : sm_M) (R : sm_S), rec l1 D M = some R → sm_MJ smT smCl smSa shC f165 dr [.ref 16, .int l1] D M R) {l1 : Int32} {D : sm_D} {M : sm_M} {R : sm_S} (h : jY_ofReckoning rec l1 D M = some R) : sm_WJ smT smCl smSa shC f166 (dr + 1) 0 [.ref 16, .int l1, .retAddr 0] [] D M R := by
  have e : jY_ofReckoning rec l1 D M = (sm_run shC smSa (cal166 rec) c166 false (fun a D M => some (a, D, M)) (lf166_0 rec D) 31 (c166.drop 0) [.ref 16, .int l1, .retAddr 0] [] D M : Option (sm_S)) := rfl
  exact sm_blk (ρ := sm_S) (gd := (fun v => v = R)) (kx := 166) (i := 0) smVC rfl (by decide) (ck166 rec dr hrec) (fun a D M v e1 e2 => by cases e1; exact e2.symm) (ll166_0 rec dr hrec D) rfl (e.symm.trans h) rfl
theorem m166 (rec : Int32 → sm_D → sm_M → Option sm_S) (dr : Nat) (hrec : ∀ (l1 : Int32) (D : sm_D) (M : sm_M) (R : sm_S), rec l1 D M = some R → sm_MJ smT smCl smSa shC f165 dr [.ref 16, .int l1] D M R) {l1 : Int32} {D : sm_D} {M : sm_M} {R : sm_S} (h : jY_ofReckoning rec l1 D M = some R) : sm_MJ smT smCl smSa shC f166 (dr + 1) [.ref 16, .int l1] D M R :=
  sm_met (by decide) (Nat.le_of_ble_eq_true rfl) (List.all_eq_true.mp rfl) (we166 rec dr hrec h)

-- jY_find
noncomputable def cal165 (rec : Int32 → sm_D → sm_M → Option sm_S) : sm_Cal := fun x as D M =>
  if x = 167 then (match as with
    | [.ref 16, .int a1] => (jY_ofChoice rec a1 D M)
    | _ => none)
  else if x = 168 then (match as with
    | [.ref 16, .int a1] => (jY_ofLambda rec a1 D M)
    | _ => none)
  else if x = 169 then (match as with
    | [.ref 16, .int a1] => (jY_ofCall rec a1 D M)
    | _ => none)
  else if x = 170 then (match as with
    | [.ref 16, .int a1] => (jY_ofPair rec a1 D M)
    | _ => none)
  else if x = 171 then (match as with
    | [.ref 16, .int a1] => (jY_ofPart rec a1 D M)
    | _ => none)
  else if x = 166 then (match as with
    | [.ref 16, .int a1] => (jY_ofReckoning rec a1 D M)
    | _ => none)
  else none
theorem ck165 (rec : Int32 → sm_D → sm_M → Option sm_S) (dr : Nat) (hrec : ∀ (l1 : Int32) (D : sm_D) (M : sm_M) (R : sm_S), rec l1 D M = some R → sm_MJ smT smCl smSa shC f165 dr [.ref 16, .int l1] D M R) : sm_CalOk smT smCl smP smSa shC (dr + 3) (cal165 rec) := by
  intro x g as D M R hx h
  unfold cal165 at h
  by_cases hx' : x = 167
  · subst hx'
    rw [if_pos (show (167 : Nat) = 167 from rfl)] at h
    cases (show smP[167]? = some f167 from rfl).symm.trans hx
    split at h
    · skip
      exact Or.inl ⟨dr + 1, by omega, m167 rec dr hrec  h⟩
    · cases h
  · rw [if_neg hx'] at h
    by_cases hx' : x = 168
    · subst hx'
      rw [if_pos (show (168 : Nat) = 168 from rfl)] at h
      cases (show smP[168]? = some f168 from rfl).symm.trans hx
      split at h
      · skip
        exact Or.inl ⟨dr + 2, by omega, m168 rec dr hrec  h⟩
      · cases h
    · rw [if_neg hx'] at h
      by_cases hx' : x = 169
      · subst hx'
        rw [if_pos (show (169 : Nat) = 169 from rfl)] at h
        cases (show smP[169]? = some f169 from rfl).symm.trans hx
        split at h
        · skip
          exact Or.inl ⟨dr + 2, by omega, m169 rec dr hrec  h⟩
        · cases h
      · rw [if_neg hx'] at h
        by_cases hx' : x = 170
        · subst hx'
          rw [if_pos (show (170 : Nat) = 170 from rfl)] at h
          cases (show smP[170]? = some f170 from rfl).symm.trans hx
          split at h
          · skip
            exact Or.inl ⟨dr + 2, by omega, m170 rec dr hrec  h⟩
          · cases h
        · rw [if_neg hx'] at h
          by_cases hx' : x = 171
          · subst hx'
            rw [if_pos (show (171 : Nat) = 171 from rfl)] at h
            cases (show smP[171]? = some f171 from rfl).symm.trans hx
            split at h
            · skip
              exact Or.inl ⟨dr + 2, by omega, m171 rec dr hrec  h⟩
            · cases h
          · rw [if_neg hx'] at h
            by_cases hx' : x = 166
            · subst hx'
              rw [if_pos (show (166 : Nat) = 166 from rfl)] at h
              cases (show smP[166]? = some f166 from rfl).symm.trans hx
              split at h
              · skip
                exact Or.inl ⟨dr + 1, by omega, m166 rec dr hrec  h⟩
              · cases h
            · rw [if_neg hx'] at h
              cases h
set_option maxRecDepth 20000 in
set_option maxHeartbeats 4000000 in
theorem w165_111 (rec : Int32 → sm_D → sm_M → Option sm_S) (dr : Nat) (hrec : ∀ (l1 : Int32) (D : sm_D) (M : sm_M) (R : sm_S), rec l1 D M = some R → sm_MJ smT smCl smSa shC f165 dr [.ref 16, .int l1] D M R) {s0 : Int32} {g0 g1 : Value} {D : sm_D} {M : sm_M} {R : sm_S} (h : jY_find_111 rec s0 D M = some R) : sm_WJ smT smCl smSa shC f165 (dr + 3) 111 [g0, g1] [.int s0] D M R := by
  have e : jY_find_111 rec s0 D M = (sm_run shC smSa (cal165 rec) c165 false (fun a D M => some (a, D, M)) sm_noleaf 61 (c165.drop 31) [g0, g1] [.int s0] D M : Option (sm_S)) := rfl
  exact sm_blk (ρ := sm_S) (gd := (fun v => v = R)) (kx := 165) (i := 31) smVC rfl (by decide) (ck165 rec dr hrec) (fun a D M v e1 e2 => by cases e1; exact e2.symm) (sm_noleaf_ok) rfl (e.symm.trans h) rfl
set_option maxRecDepth 20000 in
set_option maxHeartbeats 4000000 in
theorem w165_136 (rec : Int32 → sm_D → sm_M → Option sm_S) (dr : Nat) (hrec : ∀ (l1 : Int32) (D : sm_D) (M : sm_M) (R : sm_S), rec l1 D M = some R → sm_MJ smT smCl smSa shC f165 dr [.ref 16, .int l1] D M R) {l1 : Int32} {D : sm_D} {M : sm_M} {R : sm_S} (h : jY_find_136 rec l1 D M = some R) : sm_WJ smT smCl smSa shC f165 (dr + 3) 136 [.ref 16, .int l1] [] D M R := by
  have e : jY_find_136 rec l1 D M = (sm_run shC smSa (cal165 rec) c165 false (fun a D M => some (a, D, M)) sm_noleaf 61 (c165.drop 48) [.ref 16, .int l1] [] D M : Option (sm_S)) := rfl
  exact sm_blk (ρ := sm_S) (gd := (fun v => v = R)) (kx := 165) (i := 48) smVC rfl (by decide) (ck165 rec dr hrec) (fun a D M v e1 e2 => by cases e1; exact e2.symm) (sm_noleaf_ok) rfl (e.symm.trans h) rfl
set_option maxRecDepth 20000 in
set_option maxHeartbeats 4000000 in
theorem w165_142 (rec : Int32 → sm_D → sm_M → Option sm_S) (dr : Nat) (hrec : ∀ (l1 : Int32) (D : sm_D) (M : sm_M) (R : sm_S), rec l1 D M = some R → sm_MJ smT smCl smSa shC f165 dr [.ref 16, .int l1] D M R) {l1 : Int32} {D : sm_D} {M : sm_M} {R : sm_S} (h : jY_find_142 rec l1 D M = some R) : sm_WJ smT smCl smSa shC f165 (dr + 3) 142 [.ref 16, .int l1] [] D M R := by
  have e : jY_find_142 rec l1 D M = (sm_run shC smSa (cal165 rec) c165 false (fun a D M => some (a, D, M)) sm_noleaf 61 (c165.drop 52) [.ref 16, .int l1] [] D M : Option (sm_S)) := rfl
  exact sm_blk (ρ := sm_S) (gd := (fun v => v = R)) (kx := 165) (i := 52) smVC rfl (by decide) (ck165 rec dr hrec) (fun a D M v e1 e2 => by cases e1; exact e2.symm) (sm_noleaf_ok) rfl (e.symm.trans h) rfl
noncomputable def lf165_0 (rec : Int32 → sm_D → sm_M → Option sm_S) (D : sm_D) : Nat → List Value → List Value → sm_D → sm_M → Option (sm_S) := fun pc ls st D' M =>
  if pc = 111 then (match ls, st with
    | [gl0, gl1], [.int bs0] => (jY_find_111 rec bs0 D' M)
    | _, _ => none)
  else if pc = 136 then (match ls, st with
    | [.ref 16, .int bl1], [] => (jY_find_136 rec bl1 D' M)
    | _, _ => none)
  else if pc = 142 then (match ls, st with
    | [.ref 16, .int bl1], [] => (jY_find_142 rec bl1 D' M)
    | _, _ => none)
  else none
theorem ll165_0 (rec : Int32 → sm_D → sm_M → Option sm_S) (dr : Nat) (hrec : ∀ (l1 : Int32) (D : sm_D) (M : sm_M) (R : sm_S), rec l1 D M = some R → sm_MJ smT smCl smSa shC f165 dr [.ref 16, .int l1] D M R) (D : sm_D) {R : sm_S} : ∀ (pc : Nat) (ls st : List Value) (D' : sm_D) (M : sm_M) (v : sm_S), (lf165_0 rec D) pc ls st D' M = some v → (fun v => v = R) v → sm_WJ smT smCl smSa shC f165 (dr + 3) pc ls st D' M R := by
  intro pc ls st D' M v h hv
  unfold lf165_0 at h
  by_cases hp0 : pc = 111
  · subst hp0
    rw [if_pos (show (111 : Nat) = 111 from rfl)] at h
    split at h
    · skip
      have hv : v = R := hv
      subst hv
      exact w165_111 rec dr hrec h
    · cases h
  · rw [if_neg hp0] at h
    by_cases hp0 : pc = 136
    · subst hp0
      rw [if_pos (show (136 : Nat) = 136 from rfl)] at h
      split at h
      · skip
        have hv : v = R := hv
        subst hv
        exact w165_136 rec dr hrec h
      · cases h
    · rw [if_neg hp0] at h
      by_cases hp0 : pc = 142
      · subst hp0
        rw [if_pos (show (142 : Nat) = 142 from rfl)] at h
        split at h
        · skip
          have hv : v = R := hv
          subst hv
          exact w165_142 rec dr hrec h
        · cases h
      · rw [if_neg hp0] at h
        cases h
set_option maxRecDepth 20000 in
set_option maxHeartbeats 4000000 in
theorem we165 (rec : Int32 → sm_D → sm_M → Option sm_S) (dr : Nat) (hrec : ∀ (l1 : Int32) (D : sm_D) (M : sm_M) (R : sm_S), rec l1 D M = some R → sm_MJ smT smCl smSa shC f165 dr [.ref 16, .int l1] D M R) {l1 : Int32} {D : sm_D} {M : sm_M} {R : sm_S} (h : jY_find0 rec l1 D M = some R) : sm_WJ smT smCl smSa shC f165 (dr + 3) 0 [.ref 16, .int l1] [] D M R := by
  have e : jY_find0 rec l1 D M = (sm_run shC smSa (cal165 rec) c165 false (fun a D M => some (a, D, M)) (lf165_0 rec D) 61 (c165.drop 0) [.ref 16, .int l1] [] D M : Option (sm_S)) := rfl
  exact sm_blk (ρ := sm_S) (gd := (fun v => v = R)) (kx := 165) (i := 0) smVC rfl (by decide) (ck165 rec dr hrec) (fun a D M v e1 e2 => by cases e1; exact e2.symm) (ll165_0 rec dr hrec D) rfl (e.symm.trans h) rfl
theorem mh165 (rec : Int32 → sm_D → sm_M → Option sm_S) (dr : Nat) (hrec : ∀ (l1 : Int32) (D : sm_D) (M : sm_M) (R : sm_S), rec l1 D M = some R → sm_MJ smT smCl smSa shC f165 dr [.ref 16, .int l1] D M R) {l1 : Int32} {D : sm_D} {M : sm_M} {R : sm_S} (h : jY_find0 rec l1 D M = some R) : sm_MJ smT smCl smSa shC f165 (dr + 3) [.ref 16, .int l1] D M R :=
  sm_met (by decide) (Nat.le_of_ble_eq_true rfl) (List.all_eq_true.mp rfl) (we165 rec dr hrec h)
theorem m165 (n : Nat) {l1 : Int32} {D : sm_D} {M : sm_M} {R : sm_S} (h : jY_find n l1 D M = some R) : sm_MJ smT smCl smSa shC f165 (n * 3) [.ref 16, .int l1] D M R := by
  induction n generalizing l1 D M R with
  | zero => cases h
  | succ n ih =>
    rw [Nat.succ_mul]
    exact mh165 (jY_find n) (n * 3) (fun l1 D M R h => ih h)  h

-- jY_typeWhereNothingIsBound
noncomputable def cal164  : sm_Cal := fun x as D M =>
  if x = 165 then (match as with
    | [.ref 16, .int a1] => (jY_find 8 a1 D M)
    | _ => none)
  else none
theorem ck164  : sm_CalOk smT smCl smP smSa shC 25 cal164 := by
  intro x g as D M R hx h
  unfold cal164 at h
  by_cases hx' : x = 165
  · subst hx'
    rw [if_pos (show (165 : Nat) = 165 from rfl)] at h
    cases (show smP[165]? = some f165 from rfl).symm.trans hx
    split at h
    · skip
      exact Or.inl ⟨8 * 3, by omega, m165 8  h⟩
    · cases h
  · rw [if_neg hx'] at h
    cases h
set_option maxRecDepth 20000 in
set_option maxHeartbeats 4000000 in
theorem we164 {l1 : Int32} {D : sm_D} {M : sm_M} {R : sm_S} (h : jY_typeWhereNothingIsBound l1 D M = some R) : sm_WJ smT smCl smSa shC f164 25 0 [.ref 16, .int l1] [] D M R := by
  have e : jY_typeWhereNothingIsBound l1 D M = (sm_run shC smSa cal164 c164 false (fun a D M => some (a, D, M)) sm_noleaf 12 (c164.drop 0) [.ref 16, .int l1] [] D M : Option (sm_S)) := rfl
  exact sm_blk (ρ := sm_S) (gd := (fun v => v = R)) (kx := 164) (i := 0) smVC rfl (by decide) ck164 (fun a D M v e1 e2 => by cases e1; exact e2.symm) (sm_noleaf_ok) rfl (e.symm.trans h) rfl
theorem m164 {l1 : Int32} {D : sm_D} {M : sm_M} {R : sm_S} (h : jY_typeWhereNothingIsBound l1 D M = some R) : sm_MJ smT smCl smSa shC f164 25 [.ref 16, .int l1] D M R :=
  sm_met (by decide) (Nat.le_of_ble_eq_true rfl) (List.all_eq_true.mp rfl) (we164  h)

-- jT_forgetFrom
noncomputable def cal160  : sm_Cal := fun x as D M =>
  if x = 163 then (match as with
    | [.int a0, .int a1, .int a2, .int a3] => (jT_bucket a0 a1 a2 a3 D M)
    | _ => none)
  else none
theorem ck160  : sm_CalOk smT smCl smP smSa shC 1 cal160 := by
  intro x g as D M R hx h
  unfold cal160 at h
  by_cases hx' : x = 163
  · subst hx'
    rw [if_pos (show (163 : Nat) = 163 from rfl)] at h
    cases (show smP[163]? = some f163 from rfl).symm.trans hx
    split at h
    · skip
      exact Or.inl ⟨0, by omega, m163   h⟩
    · cases h
  · rw [if_neg hx'] at h
    cases h
def lh160_0 (D : sm_D) (R : sm_S) (s : Int32 × sm_M) : Prop := sm_WJ smT smCl smSa shC f160 1 0 [.ref 1, .int (s.1)] [] D (s.2) R
def gd160_0 (D : sm_D) (R : sm_S) (v : (Int32 × sm_M) ⊕ sm_S) : Prop := match v with
  | .inl s => lh160_0 D R s
  | .inr r => r = R
noncomputable def lf160_0 (D : sm_D) : Nat → List Value → List Value → sm_D → sm_M → Option ((Int32 × sm_M) ⊕ sm_S) := fun pc ls st D' M =>
  if pc = 0 then (match ls, st with
    | [.ref 1, .int bl1], [] => (sm_dq D' D (some (.inl (bl1, M))))
    | _, _ => none)
  else none
theorem ll160_0 (D : sm_D) {R : sm_S} : ∀ (pc : Nat) (ls st : List Value) (D' : sm_D) (M : sm_M) (v : (Int32 × sm_M) ⊕ sm_S), (lf160_0 D) pc ls st D' M = some v → (gd160_0 D R) v → sm_WJ smT smCl smSa shC f160 1 pc ls st D' M R := by
  intro pc ls st D' M v h hv
  unfold lf160_0 at h
  by_cases hp0 : pc = 0
  · subst hp0
    rw [if_pos (show (0 : Nat) = 0 from rfl)] at h
    split at h
    · skip
      replace h := sm_dq_inv h
      obtain ⟨he, h⟩ := h
      subst he
      cases h
      exact hv
    · cases h
  · rw [if_neg hp0] at h
    cases h
set_option maxRecDepth 20000 in
set_option maxHeartbeats 4000000 in
theorem wc160_0 (D : sm_D) {l1 : Int32} {M : sm_M} {R : sm_S} {v : (Int32 × sm_M) ⊕ sm_S} (h : jT_forgetFrom_0_c l1 D M = some v) (hv : (gd160_0 D R) v) : sm_WJ smT smCl smSa shC f160 1 0 [.ref 1, .int l1] [] D M R := by
  have e : jT_forgetFrom_0_c l1 D M = (sm_run shC smSa cal160 c160 false (fun a D M => some (.inr (a, D, M))) (lf160_0 D) 46 (c160.drop 0) [.ref 1, .int l1] [] D M : Option ((Int32 × sm_M) ⊕ sm_S)) := rfl
  exact sm_blk (ρ := (Int32 × sm_M) ⊕ sm_S) (gd := (gd160_0 D R)) (kx := 160) (i := 0) smVC rfl (by decide) ck160 (fun a D M v e1 e2 => by cases e1; exact e2.symm) (ll160_0 D) rfl (e.symm.trans h) hv
theorem w160_0 {l1 : Int32} {D : sm_D} {M : sm_M} {R : sm_S} (h : jT_forgetFrom_0 l1 D M = some R) : sm_WJ smT smCl smSa shC f160 1 0 [.ref 1, .int l1] [] D M R := by
  have hh : lh160_0 D R (l1, M) := by
    refine sm_lp_ind (b := jT_forgetFrom_0_b D) (r := R) (lh160_0 D R) ?_ h
    intro s v hb h1 h2
    obtain ⟨z0, M1⟩ := s
    have hv : gd160_0 D R v := by
      cases v with
      | inl s' => exact h1 s' rfl
      | inr r => exact h2 r rfl
    exact wc160_0 D hb hv
  exact hh
theorem m160 {l1 : Int32} {D : sm_D} {M : sm_M} {R : sm_S} (h : jT_forgetFrom l1 D M = some R) : sm_MJ smT smCl smSa shC f160 1 [.ref 1, .int l1] D M R :=
  sm_met (by decide) (Nat.le_of_ble_eq_true rfl) (List.all_eq_true.mp rfl) (w160_0  h)

