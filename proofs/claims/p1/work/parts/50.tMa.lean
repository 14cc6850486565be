-- jR_thrown
set_option maxRecDepth 20000 in
set_option maxHeartbeats 4000000 in
theorem we15 {D : sm_D} {M : sm_M} {R : sm_S} (h : jR_thrown D M = some R) : sm_WJ smT smCl smSa shM f15 0 0 [.ref 1] [] D M R := by
  have e : jR_thrown D M = (sm_run shM smSa sm_nocal c15 false (fun a D M => some (a, D, M)) sm_noleaf 8 (c15.drop 0) [.ref 1] [] D M : Option (sm_S)) := rfl
  exact sm_blk (ρ := sm_S) (gd := (fun v => v = R)) (kx := 15) (i := 0) smVM rfl (by decide) (sm_nocal_ok smT smCl smP smSa shM 0) (fun a D M v e1 e2 => by cases e1; exact e2.symm) (sm_noleaf_ok) rfl (e.symm.trans h) rfl
theorem m15 {D : sm_D} {M : sm_M} {R : sm_S} (h : jR_thrown D M = some R) : sm_MJ smT smCl smSa shM f15 0 [.ref 1] D M R :=
  sm_met (by decide) (Nat.le_of_ble_eq_true rfl) (List.all_eq_true.mp rfl) (we15  h)

-- jR_refuse
set_option maxRecDepth 20000 in
set_option maxHeartbeats 4000000 in
theorem we16 {l1 : Int32} {D : sm_D} {M : sm_M} {R : sm_S} (h : jR_refuse l1 D M = some R) : sm_WJ smT smCl smSa shM f16 0 0 [.ref 1, .int l1] [] D M R := by
  have e : jR_refuse l1 D M = (sm_run shM smSa sm_nocal c16 false (fun a D M => some (a, D, M)) sm_noleaf 10 (c16.drop 0) [.ref 1, .int l1] [] D M : Option (sm_S)) := rfl
  exact sm_blk (ρ := sm_S) (gd := (fun v => v = R)) (kx := 16) (i := 0) smVM rfl (by decide) (sm_nocal_ok smT smCl smP smSa shM 0) (fun a D M v e1 e2 => by cases e1; exact e2.symm) (sm_noleaf_ok) rfl (e.symm.trans h) rfl
theorem m16 {l1 : Int32} {D : sm_D} {M : sm_M} {R : sm_S} (h : jR_refuse l1 D M = some R) : sm_MJ smT smCl smSa shM f16 0 [.ref 1, .int l1] D M R :=
  sm_met (by decide) (Nat.le_of_ble_eq_true rfl) (List.all_eq_true.mp rfl) (we16  h)

-- jR_sizeOf
set_option maxRecDepth 20000 in
set_option maxHeartbeats 4000000 in
theorem w17_14 {s0 : Int32} {g0 g1 : Value} {D : sm_D} {M : sm_M} {R : sm_S} (h : jR_sizeOf_14 s0 D M = some R) : sm_WJ smT smCl smSa shM f17 0 14 [g0, g1] [.int s0] D M R := by
  have e : jR_sizeOf_14 s0 D M = (sm_run shM smSa sm_nocal c17 false (fun a D M => some (a, D, M)) sm_noleaf 14 (c17.drop 8) [g0, g1] [.int s0] D M : Option (sm_S)) := rfl
  exact sm_blk (ρ := sm_S) (gd := (fun v => v = R)) (kx := 17) (i := 8) smVM rfl (by decide) (sm_nocal_ok smT smCl smP smSa shM 0) (fun a D M v e1 e2 => by cases e1; exact e2.symm) (sm_noleaf_ok) rfl (e.symm.trans h) rfl
noncomputable def lf17_0 (D : sm_D) : Nat → List Value → List Value → sm_D → sm_M → Option (sm_S) := fun pc ls st D' M =>
  if pc = 14 then (match ls, st with
    | [gl0, gl1], [.int bs0] => (jR_sizeOf_14 bs0 D' M)
    | _, _ => none)
  else none
theorem ll17_0 (D : sm_D) {R : sm_S} : ∀ (pc : Nat) (ls st : List Value) (D' : sm_D) (M : sm_M) (v : sm_S), (lf17_0 D) pc ls st D' M = some v → (fun v => v = R) v → sm_WJ smT smCl smSa shM f17 0 pc ls st D' M R := by
  intro pc ls st D' M v h hv
  unfold lf17_0 at h
  by_cases hp0 : pc = 14
  · subst hp0
    rw [if_pos (show (14 : Nat) = 14 from rfl)] at h
    split at h
    · skip
      have hv : v = R := hv
      subst hv
      exact w17_14  h
    · cases h
  · rw [if_neg hp0] at h
    cases h
set_option maxRecDepth 20000 in
set_option maxHeartbeats 4000000 in
theorem we17 {l1 : Int32} {D : sm_D} {M : sm_M} {R : sm_S} (h : jR_sizeOf l1 D M = some R) : sm_WJ smT smCl smSa shM f17 0 0 [.ref 1, .int l1] [] D M R := by
  have e : jR_sizeOf l1 D M = (sm_run shM smSa sm_nocal c17 false (fun a D M => some (a, D, M)) (lf17_0 D) 14 (c17.drop 0) [.ref 1, .int l1] [] D M : Option (sm_S)) := rfl
  exact sm_blk (ρ := sm_S) (gd := (fun v => v = R)) (kx := 17) (i := 0) smVM rfl (by decide) (sm_nocal_ok smT smCl smP smSa shM 0) (fun a D M v e1 e2 => by cases e1; exact e2.symm) (ll17_0 D) rfl (e.symm.trans h) rfl
theorem m17 {l1 : Int32} {D : sm_D} {M : sm_M} {R : sm_S} (h : jR_sizeOf l1 D M = some R) : sm_MJ smT smCl smSa shM f17 0 [.ref 1, .int l1] D M R :=
  sm_met (by decide) (Nat.le_of_ble_eq_true rfl) (List.all_eq_true.mp rfl) (we17  h)

-- jR_find
noncomputable def cal18  : sm_Cal := fun x as D M =>
  if x = 17 then (match as with
    | [.ref 1, .int a1] => (jR_sizeOf a1 D M)
    | _ => none)
  else none
theorem ck18  : sm_CalOk smT smCl smP smSa shM 1 cal18 := by
  intro x g as D M R hx h
  unfold cal18 at h
  by_cases hx' : x = 17
  · subst hx'
    rw [if_pos (show (17 : Nat) = 17 from rfl)] at h
    cases (show smP[17]? = some f17 from rfl).symm.trans hx
    split at h
    · skip
      exact Or.inl ⟨0, by omega, m17   h⟩
    · cases h
  · rw [if_neg hx'] at h
    cases h
def lh18_3 (D : sm_D) (R : sm_S) (s : Int32 × Int32 × Int32 × Int32 × Int32 × sm_M) : Prop := sm_WJ smT smCl smSa shM f18 1 3 [.ref 1, .int (s.1), .int (s.2.1), .int (s.2.2.1), .int (s.2.2.2.1), .int (s.2.2.2.2.1)] [] D (s.2.2.2.2.2) R
def gd18_3 (D : sm_D) (R : sm_S) (v : (Int32 × Int32 × Int32 × Int32 × Int32 × sm_M) ⊕ sm_S) : Prop := match v with
  | .inl s => lh18_3 D R s
  | .inr r => r = R
noncomputable def lf18_65 (D : sm_D) : Nat → List Value → List Value → sm_D → sm_M → Option ((Int32 × Int32 × Int32 × Int32 × Int32 × sm_M) ⊕ sm_S) := fun pc ls st D' M =>
  if pc = 3 then (match ls, st with
    | [.ref 1, .int bl1, .int bl2, .int bl3, .int bl4, .int bl5], [] => (sm_dq D' D (some (.inl (bl1, bl2, bl3, bl4, bl5, M))))
    | _, _ => none)
  else none
theorem ll18_65 (D : sm_D) {R : sm_S} : ∀ (pc : Nat) (ls st : List Value) (D' : sm_D) (M : sm_M) (v : (Int32 × Int32 × Int32 × Int32 × Int32 × sm_M) ⊕ sm_S), (lf18_65 D) pc ls st D' M = some v → (gd18_3 D R) v → sm_WJ smT smCl smSa shM f18 1 pc ls st D' M R := by
  intro pc ls st D' M v h hv
  unfold lf18_65 at h
  by_cases hp0 : pc = 3
  · subst hp0
    rw [if_pos (show (3 : Nat) = 3 from rfl)] at h
    split at h
    · skip
      replace h := sm_dq_inv h
      obtain ⟨he, h⟩ := h
      subst he
      cases h
      exact hv
    · cases h
  · rw [if_neg hp0] at h
    cases h
set_option maxRecDepth 20000 in
set_option maxHeartbeats 4000000 in
theorem w18_65 (D : sm_D) {l1 l2 l3 l4 l5 : Int32} {M : sm_M} {R : sm_S} {v : (Int32 × Int32 × Int32 × Int32 × Int32 × sm_M) ⊕ sm_S} (h : jR_find_65 l1 l2 l3 l4 l5 D M = some v) (hv : (gd18_3 D R) v) : sm_WJ smT smCl smSa shM f18 1 65 [.ref 1, .int l1, .int l2, .int l3, .int l4, .int l5] [] D M R := by
  have e : jR_find_65 l1 l2 l3 l4 l5 D M = (sm_run shM smSa cal18 c18 false (fun a D M => some (.inr (a, D, M))) (lf18_65 D) 95 (c18.drop 35) [.ref 1, .int l1, .int l2, .int l3, .int l4, .int l5] [] D M : Option ((Int32 × Int32 × Int32 × Int32 × Int32 × sm_M) ⊕ sm_S)) := rfl
  exact sm_blk (ρ := (Int32 × Int32 × Int32 × Int32 × Int32 × sm_M) ⊕ sm_S) (gd := (gd18_3 D R)) (kx := 18) (i := 35) smVM rfl (by decide) ck18 (fun a D M v e1 e2 => by cases e1; exact e2.symm) (ll18_65 D) rfl (e.symm.trans h) hv
set_option maxRecDepth 20000 in
set_option maxHeartbeats 4000000 in
theorem w18_71 {l1 l2 l3 l4 : Int32} {g5 : Value} {D : sm_D} {M : sm_M} {R : sm_S} (h : jR_find_71 l1 l2 l3 l4 D M = some R) : sm_WJ smT smCl smSa shM f18 1 71 [.ref 1, .int l1, .int l2, .int l3, .int l4, g5] [] D M R := by
  have e : jR_find_71 l1 l2 l3 l4 D M = (sm_run shM smSa cal18 c18 false (fun a D M => some (a, D, M)) sm_noleaf 95 (c18.drop 37) [.ref 1, .int l1, .int l2, .int l3, .int l4, g5] [] D M : Option (sm_S)) := rfl
  exact sm_blk (ρ := sm_S) (gd := (fun v => v = R)) (kx := 18) (i := 37) smVM rfl (by decide) ck18 (fun a D M v e1 e2 => by cases e1; exact e2.symm) (sm_noleaf_ok) rfl (e.symm.trans h) rfl
noncomputable def lf18_3 (D : sm_D) : Nat → List Value → List Value → sm_D → sm_M → Option ((Int32 × Int32 × Int32 × Int32 × Int32 × sm_M) ⊕ sm_S) := fun pc ls st D' M =>
  if pc = 65 then (match ls, st with
    | [.ref 1, .int bl1, .int bl2, .int bl3, .int bl4, .int bl5], [] => (sm_dq D' D (jR_find_65 bl1 bl2 bl3 bl4 bl5 D' M))
    | _, _ => none)
  else if pc = 71 then (match ls, st with
    | [.ref 1, .int bl1, .int bl2, .int bl3, .int bl4, gl5], [] => (sm_inr (jR_find_71 bl1 bl2 bl3 bl4 D' M))
    | _, _ => none)
  else none
theorem ll18_3 (D : sm_D) {R : sm_S} : ∀ (pc : Nat) (ls st : List Value) (D' : sm_D) (M : sm_M) (v : (Int32 × Int32 × Int32 × Int32 × Int32 × sm_M) ⊕ sm_S), (lf18_3 D) pc ls st D' M = some v → (gd18_3 D R) v → sm_WJ smT smCl smSa shM f18 1 pc ls st D' M R := by
  intro pc ls st D' M v h hv
  unfold lf18_3 at h
  by_cases hp0 : pc = 65
  · subst hp0
    rw [if_pos (show (65 : Nat) = 65 from rfl)] at h
    split at h
    · skip
      replace h := sm_dq_inv h
      obtain ⟨he, h⟩ := h
      subst he
      exact w18_65 _ h hv
    · cases h
  · rw [if_neg hp0] at h
    by_cases hp0 : pc = 71
    · subst hp0
      rw [if_pos (show (71 : Nat) = 71 from rfl)] at h
      split at h
      · skip
        replace h := sm_inr_inv h
        obtain ⟨r, h, he⟩ := h
        subst he
        have hv : r = R := hv
        subst hv
        exact w18_71  h
      · cases h
    · rw [if_neg hp0] at h
      cases h
set_option maxRecDepth 20000 in
set_option maxHeartbeats 4000000 in
theorem wc18_3 (D : sm_D) {l1 l2 l3 l4 l5 : Int32} {M : sm_M} {R : sm_S} {v : (Int32 × Int32 × Int32 × Int32 × Int32 × sm_M) ⊕ sm_S} (h : jR_find_3_c l1 l2 l3 l4 l5 D M = some v) (hv : (gd18_3 D R) v) : sm_WJ smT smCl smSa shM f18 1 3 [.ref 1, .int l1, .int l2, .int l3, .int l4, .int l5] [] D M R := by
  have e : jR_find_3_c l1 l2 l3 l4 l5 D M = (sm_run shM smSa cal18 c18 false (fun a D M => some (.inr (a, D, M))) (lf18_3 D) 95 (c18.drop 2) [.ref 1, .int l1, .int l2, .int l3, .int l4, .int l5] [] D M : Option ((Int32 × Int32 × Int32 × Int32 × Int32 × sm_M) ⊕ sm_S)) := rfl
  exact sm_blk (ρ := (Int32 × Int32 × Int32 × Int32 × Int32 × sm_M) ⊕ sm_S) (gd := (gd18_3 D R)) (kx := 18) (i := 2) smVM rfl (by decide) ck18 (fun a D M v e1 e2 => by cases e1; exact e2.symm) (ll18_3 D) rfl (e.symm.trans h) hv
theorem w18_3 {l1 l2 l3 l4 l5 : Int32} {D : sm_D} {M : sm_M} {R : sm_S} (h : jR_find_3 l1 l2 l3 l4 l5 D M = some R) : sm_WJ smT smCl smSa shM f18 1 3 [.ref 1, .int l1, .int l2, .int l3, .int l4, .int l5] [] D M R := by
  have hh : lh18_3 D R (l1, l2, l3, l4, l5, M) := by
    refine sm_lp_ind (b := jR_find_3_b D) (r := R) (lh18_3 D R) ?_ h
    intro s v hb h1 h2
    obtain ⟨z0, z1, z2, z3, z4, M1⟩ := s
    have hv : gd18_3 D R v := by
      cases v with
      | inl s' => exact h1 s' rfl
      | inr r => exact h2 r rfl
    exact wc18_3 D hb hv
  exact hh
noncomputable def lf18_0 (D : sm_D) : Nat → List Value → List Value → sm_D → sm_M → Option (sm_S) := fun pc ls st D' M =>
  if pc = 3 then (match ls, st with
    | [.ref 1, .int bl1, .int bl2, .int bl3, .int bl4, .int bl5], [] => (jR_find_3 bl1 bl2 bl3 bl4 bl5 D' M)
    | _, _ => none)
  else none
theorem ll18_0 (D : sm_D) {R : sm_S} : ∀ (pc : Nat) (ls st : List Value) (D' : sm_D) (M : sm_M) (v : sm_S), (lf18_0 D) pc ls st D' M = some v → (fun v => v = R) v → sm_WJ smT smCl smSa shM f18 1 pc ls st D' M R := by
  intro pc ls st D' M v h hv
  unfold lf18_0 at h
  by_cases hp0 : pc = 3
  · subst hp0
    rw [if_pos (show (3 : Nat) = 3 from rfl)] at h
    split at h
    · skip
      have hv : v = R := hv
      subst hv
      exact w18_3  h
    · cases h
  · rw [if_neg hp0] at h
    cases h
set_option maxRecDepth 20000 in
set_option maxHeartbeats 4000000 in
theorem we18 {l1 l2 l3 l4 : Int32} {D : sm_D} {M : sm_M} {R : sm_S} (h : jR_find l1 l2 l3 l4 D M = some R) : sm_WJ smT smCl smSa shM f18 1 0 [.ref 1, .int l1, .int l2, .int l3, .int l4, .retAddr 0] [] D M R := by
  have e : jR_find l1 l2 l3 l4 D M = (sm_run shM smSa cal18 c18 false (fun a D M => some (a, D, M)) (lf18_0 D) 95 (c18.drop 0) [.ref 1, .int l1, .int l2, .int l3, .int l4, .retAddr 0] [] D M : Option (sm_S)) := rfl
  exact sm_blk (ρ := sm_S) (gd := (fun v => v = R)) (kx := 18) (i := 0) smVM rfl (by decide) ck18 (fun a D M v e1 e2 => by cases e1; exact e2.symm) (ll18_0 D) rfl (e.symm.trans h) rfl
theorem m18 {l1 l2 l3 l4 : Int32} {D : sm_D} {M : sm_M} {R : sm_S} (h : jR_find l1 l2 l3 l4 D M = some R) : sm_MJ smT smCl smSa shM f18 1 [.ref 1, .int l1, .int l2, .int l3, .int l4] D M R :=
  sm_met (by decide) (Nat.le_of_ble_eq_true rfl) (List.all_eq_true.mp rfl) (we18  h)

-- jR_isMade
set_option maxRecDepth 20000 in
set_option maxHeartbeats 4000000 in
theorem w19_17 {s0 : Int32} {g0 g1 : Value} {D : sm_D} {M : sm_M} {R : sm_S} (h : jR_isMade_17 s0 D M = some R) : sm_WJ smT smCl smSa shM f19 0 17 [g0, g1] [.int s0] D M R := by
  have e : jR_isMade_17 s0 D M = (sm_run shM smSa sm_nocal c19 true (fun a D M => some (a, D, M)) sm_noleaf 15 (c19.drop 9) [g0, g1] [.int s0] D M : Option (sm_S)) := rfl
  exact sm_blk (ρ := sm_S) (gd := (fun v => v = R)) (kx := 19) (i := 9) smVM rfl (by decide) (sm_nocal_ok smT smCl smP smSa shM 0) (fun a D M v e1 e2 => by cases e1; exact e2.symm) (sm_noleaf_ok) rfl (e.symm.trans h) rfl
noncomputable def lf19_16 (D : sm_D) : Nat → List Value → List Value → sm_D → sm_M → Option (sm_S) := fun pc ls st D' M =>
  if pc = 17 then (match ls, st with
    | [gl0, gl1], [.int bs0] => (jR_isMade_17 bs0 D' M)
    | _, _ => none)
  else none
theorem ll19_16 (D : sm_D) {R : sm_S} : ∀ (pc : Nat) (ls st : List Value) (D' : sm_D) (M : sm_M) (v : sm_S), (lf19_16 D) pc ls st D' M = some v → (fun v => v = R) v → sm_WJ smT smCl smSa shM f19 0 pc ls st D' M R := by
  intro pc ls st D' M v h hv
  unfold lf19_16 at h
  by_cases hp0 : pc = 17
  · subst hp0
    rw [if_pos (show (17 : Nat) = 17 from rfl)] at h
    split at h
    · skip
      have hv : v = R := hv
      subst hv
      exact w19_17  h
    · cases h
  · rw [if_neg hp0] at h
    cases h
set_option maxRecDepth 20000 in
set_option maxHeartbeats 4000000 in
theorem w19_16 {g0 g1 : Value} {D : sm_D} {M : sm_M} {R : sm_S} (h : jR_isMade_16 D M = some R) : sm_WJ smT smCl smSa shM f19 0 16 [g0, g1] [] D M R := by
  have e : jR_isMade_16 D M = (sm_run shM smSa sm_nocal c19 true (fun a D M => some (a, D, M)) (lf19_16 D) 15 (c19.drop 8) [g0, g1] [] D M : Option (sm_S)) := rfl
  exact sm_blk (ρ := sm_S) (gd := (fun v => v = R)) (kx := 19) (i := 8) smVM rfl (by decide) (sm_nocal_ok smT smCl smP smSa shM 0) (fun a D M v e1 e2 => by cases e1; exact e2.symm) (ll19_16 D) rfl (e.symm.trans h) rfl
noncomputable def lf19_0 (D : sm_D) : Nat → List Value → List Value → sm_D → sm_M → Option (sm_S) := fun pc ls st D' M =>
  if pc = 16 then (match ls, st with
    | [gl0, gl1], [] => (jR_isMade_16 D' M)
    | _, _ => none)
  else if pc = 17 then (match ls, st with
    | [gl0, gl1], [.int bs0] => (jR_isMade_17 bs0 D' M)
    | _, _ => none)
  else none
theorem ll19_0 (D : sm_D) {R : sm_S} : ∀ (pc : Nat) (ls st : List Value) (D' : sm_D) (M : sm_M) (v : sm_S), (lf19_0 D) pc ls st D' M = some v → (fun v => v = R) v → sm_WJ smT smCl smSa shM f19 0 pc ls st D' M R := by
  intro pc ls st D' M v h hv
  unfold lf19_0 at h
  by_cases hp0 : pc = 16
  · subst hp0
    rw [if_pos (show (16 : Nat) = 16 from rfl)] at h
    split at h
    · skip
      have hv : v = R := hv
      subst hv
      exact w19_16  h
    · cases h
  · rw [if_neg hp0] at h
    by_cases hp0 : pc = 17
    · subst hp0
      rw [if_pos (show (17 : Nat) = 17 from rfl)] at h
      split at h
      · skip
        have hv : v = R := hv
        subst hv
        exact w19_17  h
      · cases h
    · rw [if_neg hp0] at h
      cases h
set_option maxRecDepth 20000 in
set_option maxHeartbeats 4000000 in
theorem we19 {l1 : Int32} {D : sm_D} {M : sm_M} {R : sm_S} (h : jR_isMade l1 D M = some R) : sm_WJ smT smCl smSa shM f19 0 0 [.ref 1, .int l1] [] D M R := by
  have e : jR_isMade l1 D M = (sm_run shM smSa sm_nocal c19 true (fun a D M => some (a, D, M)) (lf19_0 D) 15 (c19.drop 0) [.ref 1, .int l1] [] D M : Option (sm_S)) := rfl
  exact sm_blk (ρ := sm_S) (gd := (fun v => v = R)) (kx := 19) (i := 0) smVM rfl (by decide) (sm_nocal_ok smT smCl smP smSa shM 0) (fun a D M v e1 e2 => by cases e1; exact e2.symm) (ll19_0 D) rfl (e.symm.trans h) rfl
theorem m19 {l1 : Int32} {D : sm_D} {M : sm_M} {R : sm_S} (h : jR_isMade l1 D M = some R) : sm_MJ smT smCl smSa shM f19 0 [.ref 1, .int l1] D M R :=
  sm_met (by decide) (Nat.le_of_ble_eq_true rfl) (List.all_eq_true.mp rfl) (we19  h)

-- jR_numberOf
set_option maxRecDepth 20000 in
set_option maxHeartbeats 4000000 in
theorem w20_14 {s0 : Int32} {g0 g1 : Value} {D : sm_D} {M : sm_M} {R : sm_S} (h : jR_numberOf_14 s0 D M = some R) : sm_WJ smT smCl smSa shM f20 0 14 [g0, g1] [.int s0] D M R := by
  have e : jR_numberOf_14 s0 D M = (sm_run shM smSa sm_nocal c20 false (fun a D M => some (a, D, M)) sm_noleaf 14 (c20.drop 8) [g0, g1] [.int s0] D M : Option (sm_S)) := rfl
  exact sm_blk (ρ := sm_S) (gd := (fun v => v = R)) (kx := 20) (i := 8) smVM rfl (by decide) (sm_nocal_ok smT smCl smP smSa shM 0) (fun a D M v e1 e2 => by cases e1; exact e2.symm) (sm_noleaf_ok) rfl (e.symm.trans h) rfl
noncomputable def lf20_0 (D : sm_D) : Nat → List Value → List Value → sm_D → sm_M → Option (sm_S) := fun pc ls st D' M =>
  if pc = 14 then (match ls, st with
    | [gl0, gl1], [.int bs0] => (jR_numberOf_14 bs0 D' M)
    | _, _ => none)
  else none
theorem ll20_0 (D : sm_D) {R : sm_S} : ∀ (pc : Nat) (ls st : List Value) (D' : sm_D) (M : sm_M) (v : sm_S), (lf20_0 D) pc ls st D' M = some v → (fun v => v = R) v → sm_WJ smT smCl smSa shM f20 0 pc ls st D' M R := by
  intro pc ls st D' M v h hv
  unfold lf20_0 at h
  by_cases hp0 : pc = 14
  · subst hp0
    rw [if_pos (show (14 : Nat) = 14 from rfl)] at h
    split at h
    · skip
      have hv : v = R := hv
      subst hv
      exact w20_14  h
    · cases h
  · rw [if_neg hp0] at h
    cases h
set_option maxRecDepth 20000 in
set_option maxHeartbeats 4000000 in
theorem we20 {l1 : Int32} {D : sm_D} {M : sm_M} {R : sm_S} (h : jR_numberOf l1 D M = some R) : sm_WJ smT smCl smSa shM f20 0 0 [.ref 1, .int l1] [] D M R := by
  have e : jR_numberOf l1 D M = (sm_run shM smSa sm_nocal c20 false (fun a D M => some (a, D, M)) (lf20_0 D) 14 (c20.drop 0) [.ref 1, .int l1] [] D M : Option (sm_S)) := rfl
  exact sm_blk (ρ := sm_S) (gd := (fun v => v = R)) (kx := 20) (i := 0) smVM rfl (by decide) (sm_nocal_ok smT smCl smP smSa shM 0) (fun a D M v e1 e2 => by cases e1; exact e2.symm) (ll20_0 D) rfl (e.symm.trans h) rfl
theorem m20 {l1 : Int32} {D : sm_D} {M : sm_M} {R : sm_S} (h : jR_numberOf l1 D M = some R) : sm_MJ smT smCl smSa shM f20 0 [.ref 1, .int l1] D M R :=
  sm_met (by decide) (Nat.le_of_ble_eq_true rfl) (List.all_eq_true.mp rfl) (we20  h)

-- jR_type
noncomputable def cal21  : sm_Cal := fun x as D M =>
  if x = 19 then (match as with
    | [.ref 1, .int a1] => (jR_isMade a1 D M)
    | _ => none)
  else if x = 20 then (match as with
    | [.ref 1, .int a1] => (jR_numberOf a1 D M)
    | _ => none)
  else if x = 17 then (match as with
    | [.ref 1, .int a1] => (jR_sizeOf a1 D M)
    | _ => none)
  else if x = 18 then (match as with
    | [.ref 1, .int a1, .int a2, .int a3, .int a4] => (jR_find a1 a2 a3 a4 D M)
    | _ => none)
  else none
theorem ck21  : sm_CalOk smT smCl smP smSa shM 2 cal21 := by
  intro x g as D M R hx h
  unfold cal21 at h
  by_cases hx' : x = 19
  · subst hx'
    rw [if_pos (show (19 : Nat) = 19 from rfl)] at h
    cases (show smP[19]? = some f19 from rfl).symm.trans hx
    split at h
    · skip
      exact Or.inl ⟨0, by omega, m19   h⟩
    · cases h
  · rw [if_neg hx'] at h
    by_cases hx' : x = 20
    · subst hx'
      rw [if_pos (show (20 : Nat) = 20 from rfl)] at h
      cases (show smP[20]? = some f20 from rfl).symm.trans hx
      split at h
      · skip
        exact Or.inl ⟨0, by omega, m20   h⟩
      · cases h
    · rw [if_neg hx'] at h
      by_cases hx' : x = 17
      · subst hx'
        rw [if_pos (show (17 : Nat) = 17 from rfl)] at h
        cases (show smP[17]? = some f17 from rfl).symm.trans hx
        split at h
        · skip
          exact Or.inl ⟨0, by omega, m17   h⟩
        · cases h
      · rw [if_neg hx'] at h
        by_cases hx' : x = 18
        · subst hx'
          rw [if_pos (show (18 : Nat) = 18 from rfl)] at h
          cases (show smP[18]? = some f18 from rfl).symm.trans hx
          split at h
          · skip
            exact Or.inl ⟨1, by omega, m18   h⟩
          · cases h
        · rw [if_neg hx'] at h
          cases h
set_option maxRecDepth 20000 in
set_option maxHeartbeats 4000000 in
theorem w21_15 {g0 g1 g2 g3 g4 g5 g6 g7 g8 : Value} {D : sm_D} {M : sm_M} {R : sm_S} (h : jR_type_15 D M = some R) : sm_WJ smT smCl smSa shM f21 2 15 [g0, g1, g2, g3, g4, g5, g6, g7, g8] [] D M R := by
  have e : jR_type_15 D M = (sm_run shM smSa cal21 c21 false (fun a D M => some (a, D, M)) sm_noleaf 190 (c21.drop 9) [g0, g1, g2, g3, g4, g5, g6, g7, g8] [] D M : Option (sm_S)) := rfl
  exact sm_blk (ρ := sm_S) (gd := (fun v => v = R)) (kx := 21) (i := 9) smVM rfl (by decide) ck21 (fun a D M v e1 e2 => by cases e1; exact e2.symm) (sm_noleaf_ok) rfl (e.symm.trans h) rfl
def lh21_137 (D : sm_D) (R : sm_S) (s : Int32 × Int32 × Int32 × Int32 × Int32 × sm_M) : Prop := ∀ (g3 g4 g7 : Value), sm_WJ smT smCl smSa shM f21 2 137 [.ref 1, .int (s.1), .int (s.2.1), g3, g4, .int (s.2.2.1), .int (s.2.2.2.1), g7, .int (s.2.2.2.2.1)] [] D (s.2.2.2.2.2) R
def gd21_137 (D : sm_D) (R : sm_S) (v : (Int32 × Int32 × Int32 × Int32 × Int32 × sm_M) ⊕ sm_S) : Prop := match v with
  | .inl s => lh21_137 D R s
  | .inr r => r = R
noncomputable def lf21_195 (D : sm_D) : Nat → List Value → List Value → sm_D → sm_M → Option ((Int32 × Int32 × Int32 × Int32 × Int32 × sm_M) ⊕ sm_S) := fun pc ls st D' M =>
  if pc = 137 then (match ls, st with
    | [.ref 1, .int bl1, .int bl2, gl3, gl4, .int bl5, .int bl6, gl7, .int bl8], [] => (sm_dq D' D (some (.inl (bl1, bl2, bl5, bl6, bl8, M))))
    | _, _ => none)
  else none
theorem ll21_195 (D : sm_D) {R : sm_S} : ∀ (pc : Nat) (ls st : List Value) (D' : sm_D) (M : sm_M) (v : (Int32 × Int32 × Int32 × Int32 × Int32 × sm_M) ⊕ sm_S), (lf21_195 D) pc ls st D' M = some v → (gd21_137 D R) v → sm_WJ smT smCl smSa shM f21 2 pc ls st D' M R := by
  intro pc ls st D' M v h hv
  unfold lf21_195 at h
  by_cases hp0 : pc = 137
  · subst hp0
    rw [if_pos (show (137 : Nat) = 137 from rfl)] at h
    split at h
    · skip
      replace h := sm_dq_inv h
      obtain ⟨he, h⟩ := h
      subst he
      cases h
      exact hv _ _ _
    · cases h
  · rw [if_neg hp0] at h
    cases h
set_option maxRecDepth 20000 in
set_option maxHeartbeats 4000000 in
theorem w21_195 (D : sm_D) {l1 l2 l5 l6 l8 : Int32} {g3 g4 g7 : Value} {M : sm_M} {R : sm_S} {v : (Int32 × Int32 × Int32 × Int32 × Int32 × sm_M) ⊕ sm_S} (h : jR_type_195 l1 l2 l5 l6 l8 D M = some v) (hv : (gd21_137 D R) v) : sm_WJ smT smCl smSa shM f21 2 195 [.ref 1, .int l1, .int l2, g3, g4, .int l5, .int l6, g7, .int l8] [] D M R := by
  have e : jR_type_195 l1 l2 l5 l6 l8 D M = (sm_run shM smSa cal21 c21 false (fun a D M => some (.inr (a, D, M))) (lf21_195 D) 190 (c21.drop 104) [.ref 1, .int l1, .int l2, g3, g4, .int l5, .int l6, g7, .int l8] [] D M : Option ((Int32 × Int32 × Int32 × Int32 × Int32 × sm_M) ⊕ sm_S)) := rfl
  exact sm_blk (ρ := (Int32 × Int32 × Int32 × Int32 × Int32 × sm_M) ⊕ sm_S) (gd := (gd21_137 D R)) (kx := 21) (i := 104) smVM rfl (by decide) ck21 (fun a D M v e1 e2 => by cases e1; exact e2.symm) (ll21_195 D) rfl (e.symm.trans h) hv
set_option maxRecDepth 20000 in
set_option maxHeartbeats 4000000 in
theorem w21_248 {g0 g1 g2 g3 g4 g5 g6 g7 g8 : Value} {D : sm_D} {M : sm_M} {R : sm_S} (h : jR_type_248 D M = some R) : sm_WJ smT smCl smSa shM f21 2 248 [g0, g1, g2, g3, g4, g5, g6, g7, g8] [] D M R := by
  have e : jR_type_248 D M = (sm_run shM smSa cal21 c21 false (fun a D M => some (a, D, M)) sm_noleaf 190 (c21.drop 131) [g0, g1, g2, g3, g4, g5, g6, g7, g8] [] D M : Option (sm_S)) := rfl
  exact sm_blk (ρ := sm_S) (gd := (fun v => v = R)) (kx := 21) (i := 131) smVM rfl (by decide) ck21 (fun a D M v e1 e2 => by cases e1; exact e2.symm) (sm_noleaf_ok) rfl (e.symm.trans h) rfl
noncomputable def lf21_137 (D : sm_D) : Nat → List Value → List Value → sm_D → sm_M → Option ((Int32 × Int32 × Int32 × Int32 × Int32 × sm_M) ⊕ sm_S) := fun pc ls st D' M =>
  if pc = 195 then (match ls, st with
    | [.ref 1, .int bl1, .int bl2, gl3, gl4, .int bl5, .int bl6, gl7, .int bl8], [] => (sm_dq D' D (jR_type_195 bl1 bl2 bl5 bl6 bl8 D' M))
    | _, _ => none)
  else if pc = 248 then (match ls, st with
    | [gl0, gl1, gl2, gl3, gl4, gl5, gl6, gl7, gl8], [] => (sm_inr (jR_type_248 D' M))
    | _, _ => none)
  else none
theorem ll21_137 (D : sm_D) {R : sm_S} : ∀ (pc : Nat) (ls st : List Value) (D' : sm_D) (M : sm_M) (v : (Int32 × Int32 × Int32 × Int32 × Int32 × sm_M) ⊕ sm_S), (lf21_137 D) pc ls st D' M = some v → (gd21_137 D R) v → sm_WJ smT smCl smSa shM f21 2 pc ls st D' M R := by
  intro pc ls st D' M v h hv
  unfold lf21_137 at h
  by_cases hp0 : pc = 195
  · subst hp0
    rw [if_pos (show (195 : Nat) = 195 from rfl)] at h
    split at h
    · skip
      replace h := sm_dq_inv h
      obtain ⟨he, h⟩ := h
      subst he
      exact w21_195 _ h hv
    · cases h
  · rw [if_neg hp0] at h
    by_cases hp0 : pc = 248
    · subst hp0
      rw [if_pos (show (248 : Nat) = 248 from rfl)] at h
      split at h
      · skip
        replace h := sm_inr_inv h
        obtain ⟨r, h, he⟩ := h
        subst he
        have hv : r = R := hv
        subst hv
        exact w21_248  h
      · cases h
    · rw [if_neg hp0] at h
      cases h
set_option maxRecDepth 20000 in
set_option maxHeartbeats 4000000 in
theorem wc21_137 (D : sm_D) {l1 l2 l5 l6 l8 : Int32} {g3 g4 g7 : Value} {M : sm_M} {R : sm_S} {v : (Int32 × Int32 × Int32 × Int32 × Int32 × sm_M) ⊕ sm_S} (h : jR_type_137_c l1 l2 l5 l6 l8 D M = some v) (hv : (gd21_137 D R) v) : sm_WJ smT smCl smSa shM f21 2 137 [.ref 1, .int l1, .int l2, g3, g4, .int l5, .int l6, g7, .int l8] [] D M R := by
  have e : jR_type_137_c l1 l2 l5 l6 l8 D M = (sm_run shM smSa cal21 c21 false (fun a D M => some (.inr (a, D, M))) (lf21_137 D) 190 (c21.drop 74) [.ref 1, .int l1, .int l2, g3, g4, .int l5, .int l6, g7, .int l8] [] D M : Option ((Int32 × Int32 × Int32 × Int32 × Int32 × sm_M) ⊕ sm_S)) := rfl
  exact sm_blk (ρ := (Int32 × Int32 × Int32 × Int32 × Int32 × sm_M) ⊕ sm_S) (gd := (gd21_137 D R)) (kx := 21) (i := 74) smVM rfl (by decide) ck21 (fun a D M v e1 e2 => by cases e1; exact e2.symm) (ll21_137 D) rfl (e.symm.trans h) hv
theorem w21_137 {l1 l2 l5 l6 l8 : Int32} {g3 g4 g7 : Value} {D : sm_D} {M : sm_M} {R : sm_S} (h : jR_type_137 l1 l2 l5 l6 l8 D M = some R) : sm_WJ smT smCl smSa shM f21 2 137 [.ref 1, .int l1, .int l2, g3, g4, .int l5, .int l6, g7, .int l8] [] D M R := by
  have hh : lh21_137 D R (l1, l2, l5, l6, l8, M) := by
    refine sm_lp_ind (b := jR_type_137_b D) (r := R) (lh21_137 D R) ?_ h
    intro s v hb h1 h2
    obtain ⟨z0, z1, z2, z3, z4, M1⟩ := s
    have hv : gd21_137 D R v := by
      cases v with
      | inl s' => exact h1 s' rfl
      | inr r => exact h2 r rfl
    intro g3 g4 g7
    exact wc21_137 D hb hv
  exact hh _ _ _
noncomputable def lf21_125 (D : sm_D) : Nat → List Value → List Value → sm_D → sm_M → Option (sm_S) := fun pc ls st D' M =>
  if pc = 137 then (match ls, st with
    | [.ref 1, .int bl1, .int bl2, gl3, gl4, .int bl5, .int bl6, gl7, .int bl8], [] => (jR_type_137 bl1 bl2 bl5 bl6 bl8 D' M)
    | _, _ => none)
  else none
theorem ll21_125 (D : sm_D) {R : sm_S} : ∀ (pc : Nat) (ls st : List Value) (D' : sm_D) (M : sm_M) (v : sm_S), (lf21_125 D) pc ls st D' M = some v → (fun v => v = R) v → sm_WJ smT smCl smSa shM f21 2 pc ls st D' M R := by
  intro pc ls st D' M v h hv
  unfold lf21_125 at h
  by_cases hp0 : pc = 137
  · subst hp0
    rw [if_pos (show (137 : Nat) = 137 from rfl)] at h
    split at h
    · skip
      have hv : v = R := hv
      subst hv
      exact w21_137  h
    · cases h
  · rw [if_neg hp0] at h
    cases h
set_option maxRecDepth 20000 in
set_option maxHeartbeats 4000000 in
theorem w21_125 {l1 l2 l5 l6 s0 : Int32} {g3 g4 g7 g8 : Value} {D : sm_D} {M : sm_M} {R : sm_S} (h : jR_type_125 l1 l2 l5 l6 s0 D M = some R) : sm_WJ smT smCl smSa shM f21 2 125 [.ref 1, .int l1, .int l2, g3, g4, .int l5, .int l6, g7, g8] [.int s0] D M R := by
  have e : jR_type_125 l1 l2 l5 l6 s0 D M = (sm_run shM smSa cal21 c21 false (fun a D M => some (a, D, M)) (lf21_125 D) 190 (c21.drop 67) [.ref 1, .int l1, .int l2, g3, g4, .int l5, .int l6, g7, g8] [.int s0] D M : Option (sm_S)) := rfl
  exact sm_blk (ρ := sm_S) (gd := (fun v => v = R)) (kx := 21) (i := 67) smVM rfl (by decide) ck21 (fun a D M v e1 e2 => by cases e1; exact e2.symm) (ll21_125 D) rfl (e.symm.trans h) rfl
noncomputable def lf21_90 (D : sm_D) : Nat → List Value → List Value → sm_D → sm_M → Option (sm_S) := fun pc ls st D' M =>
  if pc = 125 then (match ls, st with
    | [.ref 1, .int bl1, .int bl2, gl3, gl4, .int bl5, .int bl6, gl7, gl8], [.int bs0] => (jR_type_125 bl1 bl2 bl5 bl6 bs0 D' M)
    | _, _ => none)
  else none
theorem ll21_90 (D : sm_D) {R : sm_S} : ∀ (pc : Nat) (ls st : List Value) (D' : sm_D) (M : sm_M) (v : sm_S), (lf21_90 D) pc ls st D' M = some v → (fun v => v = R) v → sm_WJ smT smCl smSa shM f21 2 pc ls st D' M R := by
  intro pc ls st D' M v h hv
  unfold lf21_90 at h
  by_cases hp0 : pc = 125
  · subst hp0
    rw [if_pos (show (125 : Nat) = 125 from rfl)] at h
    split at h
    · skip
      have hv : v = R := hv
      subst hv
      exact w21_125  h
    · cases h
  · rw [if_neg hp0] at h
    cases h
set_option maxRecDepth 20000 in
set_option maxHeartbeats 4000000 in
theorem w21_90 {l1 l2 l5 l6 : Int32} {g3 g4 g7 g8 : Value} {D : sm_D} {M : sm_M} {R : sm_S} (h : jR_type_90 l1 l2 l5 l6 D M = some R) : sm_WJ smT smCl smSa shM f21 2 90 [.ref 1, .int l1, .int l2, g3, g4, .int l5, .int l6, g7, g8] [] D M R := by
  have e : jR_type_90 l1 l2 l5 l6 D M = (sm_run shM smSa cal21 c21 false (fun a D M => some (a, D, M)) (lf21_90 D) 190 (c21.drop 49) [.ref 1, .int l1, .int l2, g3, g4, .int l5, .int l6, g7, g8] [] D M : Option (sm_S)) := rfl
  exact sm_blk (ρ := sm_S) (gd := (fun v => v = R)) (kx := 21) (i := 49) smVM rfl (by decide) ck21 (fun a D M v e1 e2 => by cases e1; exact e2.symm) (ll21_90 D) rfl (e.symm.trans h) rfl
noncomputable def lf21_94 (D : sm_D) : Nat → List Value → List Value → sm_D → sm_M → Option (sm_S) := fun pc ls st D' M =>
  if pc = 125 then (match ls, st with
    | [.ref 1, .int bl1, .int bl2, gl3, gl4, .int bl5, .int bl6, gl7, gl8], [.int bs0] => (jR_type_125 bl1 bl2 bl5 bl6 bs0 D' M)
    | _, _ => none)
  else none
theorem ll21_94 (D : sm_D) {R : sm_S} : ∀ (pc : Nat) (ls st : List Value) (D' : sm_D) (M : sm_M) (v : sm_S), (lf21_94 D) pc ls st D' M = some v → (fun v => v = R) v → sm_WJ smT smCl smSa shM f21 2 pc ls st D' M R := by
  intro pc ls st D' M v h hv
  unfold lf21_94 at h
  by_cases hp0 : pc = 125
  · subst hp0
    rw [if_pos (show (125 : Nat) = 125 from rfl)] at h
    split at h
    · skip
      have hv : v = R := hv
      subst hv
      exact w21_125  h
    · cases h
  · rw [if_neg hp0] at h
    cases h
set_option maxRecDepth 20000 in
set_option maxHeartbeats 4000000 in
theorem w21_94 {l1 l2 l5 l6 : Int32} {g3 g4 g7 g8 : Value} {D : sm_D} {M : sm_M} {R : sm_S} (h : jR_type_94 l1 l2 l5 l6 D M = some R) : sm_WJ smT smCl smSa shM f21 2 94 [.ref 1, .int l1, .int l2, g3, g4, .int l5, .int l6, g7, g8] [] D M R := by
  have e : jR_type_94 l1 l2 l5 l6 D M = (sm_run shM smSa cal21 c21 false (fun a D M => some (a, D, M)) (lf21_94 D) 190 (c21.drop 51) [.ref 1, .int l1, .int l2, g3, g4, .int l5, .int l6, g7, g8] [] D M : Option (sm_S)) := rfl
  exact sm_blk (ρ := sm_S) (gd := (fun v => v = R)) (kx := 21) (i := 51) smVM rfl (by decide) ck21 (fun a D M v e1 e2 => by cases e1; exact e2.symm) (ll21_94 D) rfl (e.symm.trans h) rfl
noncomputable def lf21_75 (D : sm_D) : Nat → List Value → List Value → sm_D → sm_M → Option (sm_S) := fun pc ls st D' M =>
  if pc = 90 then (match ls, st with
    | [.ref 1, .int bl1, .int bl2, gl3, gl4, .int bl5, .int bl6, gl7, gl8], [] => (jR_type_90 bl1 bl2 bl5 bl6 D' M)
    | _, _ => none)
  else if pc = 94 then (match ls, st with
    | [.ref 1, .int bl1, .int bl2, gl3, gl4, .int bl5, .int bl6, gl7, gl8], [] => (jR_type_94 bl1 bl2 bl5 bl6 D' M)
    | _, _ => none)
  else none
theorem ll21_75 (D : sm_D) {R : sm_S} : ∀ (pc : Nat) (ls st : List Value) (D' : sm_D) (M : sm_M) (v : sm_S), (lf21_75 D) pc ls st D' M = some v → (fun v => v = R) v → sm_WJ smT smCl smSa shM f21 2 pc ls st D' M R := by
  intro pc ls st D' M v h hv
  unfold lf21_75 at h
  by_cases hp0 : pc = 90
  · subst hp0
    rw [if_pos (show (90 : Nat) = 90 from rfl)] at h
    split at h
    · skip
      have hv : v = R := hv
      subst hv
      exact w21_90  h
    · cases h
  · rw [if_neg hp0] at h
    by_cases hp0 : pc = 94
    · subst hp0
      rw [if_pos (show (94 : Nat) = 94 from rfl)] at h
      split at h
      · skip
        have hv : v = R := hv
        subst hv
        exact w21_94  h
      · cases h
    · rw [if_neg hp0] at h
      cases h
set_option maxRecDepth 20000 in
set_option maxHeartbeats 4000000 in
theorem w21_75 {l1 l2 l5 l6 : Int32} {g3 g4 g7 g8 : Value} {D : sm_D} {M : sm_M} {R : sm_S} (h : jR_type_75 l1 l2 l5 l6 D M = some R) : sm_WJ smT smCl smSa shM f21 2 75 [.ref 1, .int l1, .int l2, g3, g4, .int l5, .int l6, g7, g8] [] D M R := by
  have e : jR_type_75 l1 l2 l5 l6 D M = (sm_run shM smSa cal21 c21 false (fun a D M => some (a, D, M)) (lf21_75 D) 190 (c21.drop 42) [.ref 1, .int l1, .int l2, g3, g4, .int l5, .int l6, g7, g8] [] D M : Option (sm_S)) := rfl
  exact sm_blk (ρ := sm_S) (gd := (fun v => v = R)) (kx := 21) (i := 42) smVM rfl (by decide) ck21 (fun a D M v e1 e2 => by cases e1; exact e2.symm) (ll21_75 D) rfl (e.symm.trans h) rfl
noncomputable def lf21_60 (D : sm_D) : Nat → List Value → List Value → sm_D → sm_M → Option (sm_S) := fun pc ls st D' M =>
  if pc = 75 then (match ls, st with
    | [.ref 1, .int bl1, .int bl2, gl3, gl4, .int bl5, .int bl6, gl7, gl8], [] => (jR_type_75 bl1 bl2 bl5 bl6 D' M)
    | _, _ => none)
  else if pc = 94 then (match ls, st with
    | [.ref 1, .int bl1, .int bl2, gl3, gl4, .int bl5, .int bl6, gl7, gl8], [] => (jR_type_94 bl1 bl2 bl5 bl6 D' M)
    | _, _ => none)
  else none
theorem ll21_60 (D : sm_D) {R : sm_S} : ∀ (pc : Nat) (ls st : List Value) (D' : sm_D) (M : sm_M) (v : sm_S), (lf21_60 D) pc ls st D' M = some v → (fun v => v = R) v → sm_WJ smT smCl smSa shM f21 2 pc ls st D' M R := by
  intro pc ls st D' M v h hv
  unfold lf21_60 at h
  by_cases hp0 : pc = 75
  · subst hp0
    rw [if_pos (show (75 : Nat) = 75 from rfl)] at h
    split at h
    · skip
      have hv : v = R := hv
      subst hv
      exact w21_75  h
    · cases h
  · rw [if_neg hp0] at h
    by_cases hp0 : pc = 94
    · subst hp0
      rw [if_pos (show (94 : Nat) = 94 from rfl)] at h
      split at h
      · skip
        have hv : v = R := hv
        subst hv
        exact w21_94  h
      · cases h
    · rw [if_neg hp0] at h
      cases h
set_option maxRecDepth 20000 in
set_option maxHeartbeats 4000000 in
theorem w21_60 {l1 l2 l5 l6 : Int32} {g3 g4 g7 g8 : Value} {D : sm_D} {M : sm_M} {R : sm_S} (h : jR_type_60 l1 l2 l5 l6 D M = some R) : sm_WJ smT smCl smSa shM f21 2 60 [.ref 1, .int l1, .int l2, g3, g4, .int l5, .int l6, g7, g8] [] D M R := by
  have e : jR_type_60 l1 l2 l5 l6 D M = (sm_run shM smSa cal21 c21 false (fun a D M => some (a, D, M)) (lf21_60 D) 190 (c21.drop 35) [.ref 1, .int l1, .int l2, g3, g4, .int l5, .int l6, g7, g8] [] D M : Option (sm_S)) := rfl
  exact sm_blk (ρ := sm_S) (gd := (fun v => v = R)) (kx := 21) (i := 35) smVM rfl (by decide) ck21 (fun a D M v e1 e2 => by cases e1; exact e2.symm) (ll21_60 D) rfl (e.symm.trans h) rfl
noncomputable def lf21_120 (D : sm_D) : Nat → List Value → List Value → sm_D → sm_M → Option (sm_S) := fun pc ls st D' M =>
  if pc = 125 then (match ls, st with
    | [.ref 1, .int bl1, .int bl2, gl3, gl4, .int bl5, .int bl6, gl7, gl8], [.int bs0] => (jR_type_125 bl1 bl2 bl5 bl6 bs0 D' M)
    | _, _ => none)
  else none
theorem ll21_120 (D : sm_D) {R : sm_S} : ∀ (pc : Nat) (ls st : List Value) (D' : sm_D) (M : sm_M) (v : sm_S), (lf21_120 D) pc ls st D' M = some v → (fun v => v = R) v → sm_WJ smT smCl smSa shM f21 2 pc ls st D' M R := by
  intro pc ls st D' M v h hv
  unfold lf21_120 at h
  by_cases hp0 : pc = 125
  · subst hp0
    rw [if_pos (show (125 : Nat) = 125 from rfl)] at h
    split at h
    · skip
      have hv : v = R := hv
      subst hv
      exact w21_125  h
    · cases h
  · rw [if_neg hp0] at h
    cases h
set_option maxRecDepth 20000 in
set_option maxHeartbeats 4000000 in
theorem w21_120 {l1 l2 l5 l6 : Int32} {g3 g4 g7 g8 : Value} {D : sm_D} {M : sm_M} {R : sm_S} (h : jR_type_120 l1 l2 l5 l6 D M = some R) : sm_WJ smT smCl smSa shM f21 2 120 [.ref 1, .int l1, .int l2, g3, g4, .int l5, .int l6, g7, g8] [] D M R := by
  have e : jR_type_120 l1 l2 l5 l6 D M = (sm_run shM smSa cal21 c21 false (fun a D M => some (a, D, M)) (lf21_120 D) 190 (c21.drop 64) [.ref 1, .int l1, .int l2, g3, g4, .int l5, .int l6, g7, g8] [] D M : Option (sm_S)) := rfl
  exact sm_blk (ρ := sm_S) (gd := (fun v => v = R)) (kx := 21) (i := 64) smVM rfl (by decide) ck21 (fun a D M v e1 e2 => by cases e1; exact e2.symm) (ll21_120 D) rfl (e.symm.trans h) rfl
noncomputable def lf21_124 (D : sm_D) : Nat → List Value → List Value → sm_D → sm_M → Option (sm_S) := fun pc ls st D' M =>
  if pc = 125 then (match ls, st with
    | [.ref 1, .int bl1, .int bl2, gl3, gl4, .int bl5, .int bl6, gl7, gl8], [.int bs0] => (jR_type_125 bl1 bl2 bl5 bl6 bs0 D' M)
    | _, _ => none)
  else none
theorem ll21_124 (D : sm_D) {R : sm_S} : ∀ (pc : Nat) (ls st : List Value) (D' : sm_D) (M : sm_M) (v : sm_S), (lf21_124 D) pc ls st D' M = some v → (fun v => v = R) v → sm_WJ smT smCl smSa shM f21 2 pc ls st D' M R := by
  intro pc ls st D' M v h hv
  unfold lf21_124 at h
  by_cases hp0 : pc = 125
  · subst hp0
    rw [if_pos (show (125 : Nat) = 125 from rfl)] at h
    split at h
    · skip
      have hv : v = R := hv
      subst hv
      exact w21_125  h
    · cases h
  · rw [if_neg hp0] at h
    cases h
set_option maxRecDepth 20000 in
set_option maxHeartbeats 4000000 in
theorem w21_124 {l1 l2 l5 l6 : Int32} {g3 g4 g7 g8 : Value} {D : sm_D} {M : sm_M} {R : sm_S} (h : jR_type_124 l1 l2 l5 l6 D M = some R) : sm_WJ smT smCl smSa shM f21 2 124 [.ref 1, .int l1, .int l2, g3, g4, .int l5, .int l6, g7, g8] [] D M R := by
  have e : jR_type_124 l1 l2 l5 l6 D M = (sm_run shM smSa cal21 c21 false (fun a D M => some (a, D, M)) (lf21_124 D) 190 (c21.drop 66) [.ref 1, .int l1, .int l2, g3, g4, .int l5, .int l6, g7, g8] [] D M : Option (sm_S)) := rfl
  exact sm_blk (ρ := sm_S) (gd := (fun v => v = R)) (kx := 21) (i := 66) smVM rfl (by decide) ck21 (fun a D M v e1 e2 => by cases e1; exact e2.symm) (ll21_124 D) rfl (e.symm.trans h) rfl
noncomputable def lf21_40 (D : sm_D) : Nat → List Value → List Value → sm_D → sm_M → Option (sm_S) := fun pc ls st D' M =>
  if pc = 60 then (match ls, st with
    | [.ref 1, .int bl1, .int bl2, gl3, gl4, .int bl5, .int bl6, gl7, gl8], [] => (jR_type_60 bl1 bl2 bl5 bl6 D' M)
    | _, _ => none)
  else if pc = 94 then (match ls, st with
    | [.ref 1, .int bl1, .int bl2, gl3, gl4, .int bl5, .int bl6, gl7, gl8], [] => (jR_type_94 bl1 bl2 bl5 bl6 D' M)
    | _, _ => none)
  else if pc = 120 then (match ls, st with
    | [.ref 1, .int bl1, .int bl2, gl3, gl4, .int bl5, .int bl6, gl7, gl8], [] => (jR_type_120 bl1 bl2 bl5 bl6 D' M)
    | _, _ => none)
  else if pc = 124 then (match ls, st with
    | [.ref 1, .int bl1, .int bl2, gl3, gl4, .int bl5, .int bl6, gl7, gl8], [] => (jR_type_124 bl1 bl2 bl5 bl6 D' M)
    | _, _ => none)
  else none
theorem ll21_40 (D : sm_D) {R : sm_S} : ∀ (pc : Nat) (ls st : List Value) (D' : sm_D) (M : sm_M) (v : sm_S), (lf21_40 D) pc ls st D' M = some v → (fun v => v = R) v → sm_WJ smT smCl smSa shM f21 2 pc ls st D' M R := by
  intro pc ls st D' M v h hv
  unfold lf21_40 at h
  by_cases hp0 : pc = 60
  · subst hp0
    rw [if_pos (show (60 : Nat) = 60 from rfl)] at h
    split at h
    · skip
      have hv : v = R := hv
      subst hv
      exact w21_60  h
    · cases h
  · rw [if_neg hp0] at h
    by_cases hp0 : pc = 94
    · subst hp0
      rw [if_pos (show (94 : Nat) = 94 from rfl)] at h
      split at h
      · skip
        have hv : v = R := hv
        subst hv
        exact w21_94  h
      · cases h
    · rw [if_neg hp0] at h
      by_cases hp0 : pc = 120
      · subst hp0
        rw [if_pos (show (120 : Nat) = 120 from rfl)] at h
        split at h
        · skip
          have hv : v = R := hv
          subst hv
          exact w21_120  h
        · cases h
      · rw [if_neg hp0] at h
        by_cases hp0 : pc = 124
        · subst hp0
          rw [if_pos (show (124 : Nat) = 124 from rfl)] at h
          split at h
          · skip
            have hv : v = R := hv
            subst hv
            exact w21_124  h
          · cases h
        · rw [if_neg hp0] at h
          cases h
set_option maxRecDepth 20000 in
set_option maxHeartbeats 4000000 in
theorem w21_40 {l1 l2 l5 s0 : Int32} {g3 g4 g6 g7 g8 : Value} {D : sm_D} {M : sm_M} {R : sm_S} (h : jR_type_40 l1 l2 l5 s0 D M = some R) : sm_WJ smT smCl smSa shM f21 2 40 [.ref 1, .int l1, .int l2, g3, g4, .int l5, g6, g7, g8] [.int s0] D M R := by
  have e : jR_type_40 l1 l2 l5 s0 D M = (sm_run shM smSa cal21 c21 false (fun a D M => some (a, D, M)) (lf21_40 D) 190 (c21.drop 24) [.ref 1, .int l1, .int l2, g3, g4, .int l5, g6, g7, g8] [.int s0] D M : Option (sm_S)) := rfl
  exact sm_blk (ρ := sm_S) (gd := (fun v => v = R)) (kx := 21) (i := 24) smVM rfl (by decide) ck21 (fun a D M v e1 e2 => by cases e1; exact e2.symm) (ll21_40 D) rfl (e.symm.trans h) rfl
noncomputable def lf21_27 (D : sm_D) : Nat → List Value → List Value → sm_D → sm_M → Option (sm_S) := fun pc ls st D' M =>
  if pc = 40 then (match ls, st with
    | [.ref 1, .int bl1, .int bl2, gl3, gl4, .int bl5, gl6, gl7, gl8], [.int bs0] => (jR_type_40 bl1 bl2 bl5 bs0 D' M)
    | _, _ => none)
  else none
theorem ll21_27 (D : sm_D) {R : sm_S} : ∀ (pc : Nat) (ls st : List Value) (D' : sm_D) (M : sm_M) (v : sm_S), (lf21_27 D) pc ls st D' M = some v → (fun v => v = R) v → sm_WJ smT smCl smSa shM f21 2 pc ls st D' M R := by
  intro pc ls st D' M v h hv
  unfold lf21_27 at h
  by_cases hp0 : pc = 40
  · subst hp0
    rw [if_pos (show (40 : Nat) = 40 from rfl)] at h
    split at h
    · skip
      have hv : v = R := hv
      subst hv
      exact w21_40  h
    · cases h
  · rw [if_neg hp0] at h
    cases h
set_option maxRecDepth 20000 in
set_option maxHeartbeats 4000000 in
theorem w21_27 {l1 l2 l4 s0 : Int32} {g3 g5 g6 g7 g8 : Value} {D : sm_D} {M : sm_M} {R : sm_S} (h : jR_type_27 l1 l2 l4 s0 D M = some R) : sm_WJ smT smCl smSa shM f21 2 27 [.ref 1, .int l1, .int l2, g3, .int l4, g5, g6, g7, g8] [.int s0] D M R := by
  have e : jR_type_27 l1 l2 l4 s0 D M = (sm_run shM smSa cal21 c21 false (fun a D M => some (a, D, M)) (lf21_27 D) 190 (c21.drop 17) [.ref 1, .int l1, .int l2, g3, .int l4, g5, g6, g7, g8] [.int s0] D M : Option (sm_S)) := rfl
  exact sm_blk (ρ := sm_S) (gd := (fun v => v = R)) (kx := 21) (i := 17) smVM rfl (by decide) ck21 (fun a D M v e1 e2 => by cases e1; exact e2.symm) (ll21_27 D) rfl (e.symm.trans h) rfl
noncomputable def lf21_0 (D : sm_D) : Nat → List Value → List Value → sm_D → sm_M → Option (sm_S) := fun pc ls st D' M =>
  if pc = 15 then (match ls, st with
    | [gl0, gl1, gl2, gl3, gl4, gl5, gl6, gl7, gl8], [] => (jR_type_15 D' M)
    | _, _ => none)
  else if pc = 27 then (match ls, st with
    | [.ref 1, .int bl1, .int bl2, gl3, .int bl4, gl5, gl6, gl7, gl8], [.int bs0] => (jR_type_27 bl1 bl2 bl4 bs0 D' M)
    | _, _ => none)
  else none
theorem ll21_0 (D : sm_D) {R : sm_S} : ∀ (pc : Nat) (ls st : List Value) (D' : sm_D) (M : sm_M) (v : sm_S), (lf21_0 D) pc ls st D' M = some v → (fun v => v = R) v → sm_WJ smT smCl smSa shM f21 2 pc ls st D' M R := by
  intro pc ls st D' M v h hv
  unfold lf21_0 at h
  by_cases hp0 : pc = 15
  · subst hp0
    rw [if_pos (show (15 : Nat) = 15 from rfl)] at h
    split at h
    · skip
      have hv : v = R := hv
      subst hv
      exact w21_15  h
    · cases h
  · rw [if_neg hp0] at h
    by_cases hp0 : pc = 27
    · subst hp0
      rw [if_pos (show (27 : Nat) = 27 from rfl)] at h
      split at h
      · skip
        have hv : v = R := hv
        subst hv
        exact w21_27  h
      · cases h
    · rw [if_neg hp0] at h
      cases h
set_option maxRecDepth 20000 in
set_option maxHeartbeats 4000000 in
theorem we21 {l1 l2 l3 l4 : Int32} {D : sm_D} {M : sm_M} {R : sm_S} (h : jR_type l1 l2 l3 l4 D M = some R) : sm_WJ smT smCl smSa shM f21 2 0 [.ref 1, .int l1, .int l2, .int l3, .int l4, .retAddr 0, .retAddr 0, .retAddr 0, .retAddr 0] [] D M R := by
  have e : jR_type l1 l2 l3 l4 D M = (sm_run shM smSa cal21 c21 false (fun a D M => some (a, D, M)) (lf21_0 D) 190 (c21.drop 0) [.ref 1, .int l1, .int l2, .int l3, .int l4, .retAddr 0, .retAddr 0, .retAddr 0, .retAddr 0] [] D M : Option (sm_S)) := rfl
  exact sm_blk (ρ := sm_S) (gd := (fun v => v = R)) (kx := 21) (i := 0) smVM rfl (by decide) ck21 (fun a D M v e1 e2 => by cases e1; exact e2.symm) (ll21_0 D) rfl (e.symm.trans h) rfl
theorem m21 {l1 l2 l3 l4 : Int32} {D : sm_D} {M : sm_M} {R : sm_S} (h : jR_type l1 l2 l3 l4 D M = some R) : sm_MJ smT smCl smSa shM f21 2 [.ref 1, .int l1, .int l2, .int l3, .int l4] D M R :=
  sm_met (by decide) (Nat.le_of_ble_eq_true rfl) (List.all_eq_true.mp rfl) (we21  h)

-- jR_size
noncomputable def cal22  : sm_Cal := fun x as D M =>
  if x = 19 then (match as with
    | [.ref 1, .int a1] => (jR_isMade a1 D M)
    | _ => none)
  else none
theorem ck22  : sm_CalOk smT smCl smP smSa shM 1 cal22 := by
  intro x g as D M R hx h
  unfold cal22 at h
  by_cases hx' : x = 19
  · subst hx'
    rw [if_pos (show (19 : Nat) = 19 from rfl)] at h
    cases (show smP[19]? = some f19 from rfl).symm.trans hx
    split at h
    · skip
      exact Or.inl ⟨0, by omega, m19   h⟩
    · cases h
  · rw [if_neg hx'] at h
    cases h
set_option maxRecDepth 20000 in
set_option maxHeartbeats 4000000 in
theorem w22_28 {s0 : Int32} {g0 g1 : Value} {D : sm_D} {M : sm_M} {R : sm_S} (h : jR_size_28 s0 D M = some R) : sm_WJ smT smCl smSa shM f22 1 28 [g0, g1] [.int s0] D M R := by
  have e : jR_size_28 s0 D M = (sm_run shM smSa cal22 c22 false (fun a D M => some (a, D, M)) sm_noleaf 22 (c22.drop 16) [g0, g1] [.int s0] D M : Option (sm_S)) := rfl
  exact sm_blk (ρ := sm_S) (gd := (fun v => v = R)) (kx := 22) (i := 16) smVM rfl (by decide) ck22 (fun a D M v e1 e2 => by cases e1; exact e2.symm) (sm_noleaf_ok) rfl (e.symm.trans h) rfl
noncomputable def lf22_0 (D : sm_D) : Nat → List Value → List Value → sm_D → sm_M → Option (sm_S) := fun pc ls st D' M =>
  if pc = 28 then (match ls, st with
    | [gl0, gl1], [.int bs0] => (jR_size_28 bs0 D' M)
    | _, _ => none)
  else none
theorem ll22_0 (D : sm_D) {R : sm_S} : ∀ (pc : Nat) (ls st : List Value) (D' : sm_D) (M : sm_M) (v : sm_S), (lf22_0 D) pc ls st D' M = some v → (fun v => v = R) v → sm_WJ smT smCl smSa shM f22 1 pc ls st D' M R := by
  intro pc ls st D' M v h hv
  unfold lf22_0 at h
  by_cases hp0 : pc = 28
  · subst hp0
    rw [if_pos (show (28 : Nat) = 28 from rfl)] at h
    split at h
    · skip
      have hv : v = R := hv
      subst hv
      exact w22_28  h
    · cases h
  · rw [if_neg hp0] at h
    cases h
set_option maxRecDepth 20000 in
set_option maxHeartbeats 4000000 in
theorem we22 {l1 : Int32} {D : sm_D} {M : sm_M} {R : sm_S} (h : jR_size l1 D M = some R) : sm_WJ smT smCl smSa shM f22 1 0 [.ref 1, .int l1] [] D M R := by
  have e : jR_size l1 D M = (sm_run shM smSa cal22 c22 false (fun a D M => some (a, D, M)) (lf22_0 D) 22 (c22.drop 0) [.ref 1, .int l1] [] D M : Option (sm_S)) := rfl
  exact sm_blk (ρ := sm_S) (gd := (fun v => v = R)) (kx := 22) (i := 0) smVM rfl (by decide) ck22 (fun a D M v e1 e2 => by cases e1; exact e2.symm) (ll22_0 D) rfl (e.symm.trans h) rfl
theorem m22 {l1 : Int32} {D : sm_D} {M : sm_M} {R : sm_S} (h : jR_size l1 D M = some R) : sm_MJ smT smCl smSa shM f22 1 [.ref 1, .int l1] D M R :=
  sm_met (by decide) (Nat.le_of_ble_eq_true rfl) (List.all_eq_true.mp rfl) (we22  h)

-- jR_partsOf
set_option maxRecDepth 20000 in
set_option maxHeartbeats 4000000 in
theorem w23_35 {s0 : Int32} {g0 : Value} {D : sm_D} {M : sm_M} {R : sm_S} (h : jR_partsOf_35 s0 D M = some R) : sm_WJ smT smCl smSa shM f23 0 35 [g0] [.int s0] D M R := by
  have e : jR_partsOf_35 s0 D M = (sm_run shM smSa sm_nocal c23 false (fun a D M => some (a, D, M)) sm_noleaf 25 (c23.drop 19) [g0] [.int s0] D M : Option (sm_S)) := rfl
  exact sm_blk (ρ := sm_S) (gd := (fun v => v = R)) (kx := 23) (i := 19) smVM rfl (by decide) (sm_nocal_ok smT smCl smP smSa shM 0) (fun a D M v e1 e2 => by cases e1; exact e2.symm) (sm_noleaf_ok) rfl (e.symm.trans h) rfl
noncomputable def lf23_30 (D : sm_D) : Nat → List Value → List Value → sm_D → sm_M → Option (sm_S) := fun pc ls st D' M =>
  if pc = 35 then (match ls, st with
    | [gl0], [.int bs0] => (jR_partsOf_35 bs0 D' M)
    | _, _ => none)
  else none
theorem ll23_30 (D : sm_D) {R : sm_S} : ∀ (pc : Nat) (ls st : List Value) (D' : sm_D) (M : sm_M) (v : sm_S), (lf23_30 D) pc ls st D' M = some v → (fun v => v = R) v → sm_WJ smT smCl smSa shM f23 0 pc ls st D' M R := by
  intro pc ls st D' M v h hv
  unfold lf23_30 at h
  by_cases hp0 : pc = 35
  · subst hp0
    rw [if_pos (show (35 : Nat) = 35 from rfl)] at h
    split at h
    · skip
      have hv : v = R := hv
      subst hv
      exact w23_35  h
    · cases h
  · rw [if_neg hp0] at h
    cases h
set_option maxRecDepth 20000 in
set_option maxHeartbeats 4000000 in
theorem w23_30 {g0 : Value} {D : sm_D} {M : sm_M} {R : sm_S} (h : jR_partsOf_30 D M = some R) : sm_WJ smT smCl smSa shM f23 0 30 [g0] [] D M R := by
  have e : jR_partsOf_30 D M = (sm_run shM smSa sm_nocal c23 false (fun a D M => some (a, D, M)) (lf23_30 D) 25 (c23.drop 16) [g0] [] D M : Option (sm_S)) := rfl
  exact sm_blk (ρ := sm_S) (gd := (fun v => v = R)) (kx := 23) (i := 16) smVM rfl (by decide) (sm_nocal_ok smT smCl smP smSa shM 0) (fun a D M v e1 e2 => by cases e1; exact e2.symm) (ll23_30 D) rfl (e.symm.trans h) rfl
noncomputable def lf23_0 (D : sm_D) : Nat → List Value → List Value → sm_D → sm_M → Option (sm_S) := fun pc ls st D' M =>
  if pc = 30 then (match ls, st with
    | [gl0], [] => (jR_partsOf_30 D' M)
    | _, _ => none)
  else if pc = 35 then (match ls, st with
    | [gl0], [.int bs0] => (jR_partsOf_35 bs0 D' M)
    | _, _ => none)
  else none
theorem ll23_0 (D : sm_D) {R : sm_S} : ∀ (pc : Nat) (ls st : List Value) (D' : sm_D) (M : sm_M) (v : sm_S), (lf23_0 D) pc ls st D' M = some v → (fun v => v = R) v → sm_WJ smT smCl smSa shM f23 0 pc ls st D' M R := by
  intro pc ls st D' M v h hv
  unfold lf23_0 at h
  by_cases hp0 : pc = 30
  · subst hp0
    rw [if_pos (show (30 : Nat) = 30 from rfl)] at h
    split at h
    · skip
      have hv : v = R := hv
      subst hv
      exact w23_30  h
    · cases h
  · rw [if_neg hp0] at h
    by_cases hp0 : pc = 35
    · subst hp0
      rw [if_pos (show (35 : Nat) = 35 from rfl)] at h
      split at h
      · skip
        have hv : v = R := hv
        subst hv
        exact w23_35  h
      · cases h
    · rw [if_neg hp0] at h
      cases h
set_option maxRecDepth 20000 in
set_option maxHeartbeats 4000000 in
theorem we23 {l0 : Int32} {D : sm_D} {M : sm_M} {R : sm_S} (h : jR_partsOf l0 D M = some R) : sm_WJ smT smCl smSa shM f23 0 0 [.int l0] [] D M R := by
  have e : jR_partsOf l0 D M = (sm_run shM smSa sm_nocal c23 false (fun a D M => some (a, D, M)) (lf23_0 D) 25 (c23.drop 0) [.int l0] [] D M : Option (sm_S)) := rfl
  exact sm_blk (ρ := sm_S) (gd := (fun v => v = R)) (kx := 23) (i := 0) smVM rfl (by decide) (sm_nocal_ok smT smCl smP smSa shM 0) (fun a D M v e1 e2 => by cases e1; exact e2.symm) (ll23_0 D) rfl (e.symm.trans h) rfl
theorem m23 {l0 : Int32} {D : sm_D} {M : sm_M} {R : sm_S} (h : jR_partsOf l0 D M = some R) : sm_MJ smT smCl smSa shM f23 0 [.int l0] D M R :=
  sm_met (by decide) (Nat.le_of_ble_eq_true rfl) (List.all_eq_true.mp rfl) (we23  h)

-- jR_isExpression
set_option maxRecDepth 20000 in
set_option maxHeartbeats 4000000 in
theorem w24_17 {s0 : Int32} {g0 g1 : Value} {D : sm_D} {M : sm_M} {R : sm_S} (h : jR_isExpression_17 s0 D M = some R) : sm_WJ smT smCl smSa shM f24 0 17 [g0, g1] [.int s0] D M R := by
  have e : jR_isExpression_17 s0 D M = (sm_run shM smSa sm_nocal c24 true (fun a D M => some (a, D, M)) sm_noleaf 15 (c24.drop 9) [g0, g1] [.int s0] D M : Option (sm_S)) := rfl
  exact sm_blk (ρ := sm_S) (gd := (fun v => v = R)) (kx := 24) (i := 9) smVM rfl (by decide) (sm_nocal_ok smT smCl smP smSa shM 0) (fun a D M v e1 e2 => by cases e1; exact e2.symm) (sm_noleaf_ok) rfl (e.symm.trans h) rfl
noncomputable def lf24_16 (D : sm_D) : Nat → List Value → List Value → sm_D → sm_M → Option (sm_S) := fun pc ls st D' M =>
  if pc = 17 then (match ls, st with
    | [gl0, gl1], [.int bs0] => (jR_isExpression_17 bs0 D' M)
    | _, _ => none)
  else none
theorem ll24_16 (D : sm_D) {R : sm_S} : ∀ (pc : Nat) (ls st : List Value) (D' : sm_D) (M : sm_M) (v : sm_S), (lf24_16 D) pc ls st D' M = some v → (fun v => v = R) v → sm_WJ smT smCl smSa shM f24 0 pc ls st D' M R := by
  intro pc ls st D' M v h hv
  unfold lf24_16 at h
  by_cases hp0 : pc = 17
  · subst hp0
    rw [if_pos (show (17 : Nat) = 17 from rfl)] at h
    split at h
    · skip
      have hv : v = R := hv
      subst hv
      exact w24_17  h
    · cases h
  · rw [if_neg hp0] at h
    cases h
set_option maxRecDepth 20000 in
set_option maxHeartbeats 4000000 in
theorem w24_16 {g0 g1 : Value} {D : sm_D} {M : sm_M} {R : sm_S} (h : jR_isExpression_16 D M = some R) : sm_WJ smT smCl smSa shM f24 0 16 [g0, g1] [] D M R := by
  have e : jR_isExpression_16 D M = (sm_run shM smSa sm_nocal c24 true (fun a D M => some (a, D, M)) (lf24_16 D) 15 (c24.drop 8) [g0, g1] [] D M : Option (sm_S)) := rfl
  exact sm_blk (ρ := sm_S) (gd := (fun v => v = R)) (kx := 24) (i := 8) smVM rfl (by decide) (sm_nocal_ok smT smCl smP smSa shM 0) (fun a D M v e1 e2 => by cases e1; exact e2.symm) (ll24_16 D) rfl (e.symm.trans h) rfl
noncomputable def lf24_0 (D : sm_D) : Nat → List Value → List Value → sm_D → sm_M → Option (sm_S) := fun pc ls st D' M =>
  if pc = 16 then (match ls, st with
    | [gl0, gl1], [] => (jR_isExpression_16 D' M)
    | _, _ => none)
  else if pc = 17 then (match ls, st with
    | [gl0, gl1], [.int bs0] => (jR_isExpression_17 bs0 D' M)
    | _, _ => none)
  else none
theorem ll24_0 (D : sm_D) {R : sm_S} : ∀ (pc : Nat) (ls st : List Value) (D' : sm_D) (M : sm_M) (v : sm_S), (lf24_0 D) pc ls st D' M = some v → (fun v => v = R) v → sm_WJ smT smCl smSa shM f24 0 pc ls st D' M R := by
  intro pc ls st D' M v h hv
  unfold lf24_0 at h
  by_cases hp0 : pc = 16
  · subst hp0
    rw [if_pos (show (16 : Nat) = 16 from rfl)] at h
    split at h
    · skip
      have hv : v = R := hv
      subst hv
      exact w24_16  h
    · cases h
  · rw [if_neg hp0] at h
    by_cases hp0 : pc = 17
    · subst hp0
      rw [if_pos (show (17 : Nat) = 17 from rfl)] at h
      split at h
      · skip
        have hv : v = R := hv
        subst hv
        exact w24_17  h
      · cases h
    · rw [if_neg hp0] at h
      cases h
set_option maxRecDepth 20000 in
set_option maxHeartbeats 4000000 in
theorem we24 {l1 : Int32} {D : sm_D} {M : sm_M} {R : sm_S} (h : jR_isExpression l1 D M = some R) : sm_WJ smT smCl smSa shM f24 0 0 [.ref 1, .int l1] [] D M R := by
  have e : jR_isExpression l1 D M = (sm_run shM smSa sm_nocal c24 true (fun a D M => some (a, D, M)) (lf24_0 D) 15 (c24.drop 0) [.ref 1, .int l1] [] D M : Option (sm_S)) := rfl
  exact sm_blk (ρ := sm_S) (gd := (fun v => v = R)) (kx := 24) (i := 0) smVM rfl (by decide) (sm_nocal_ok smT smCl smP smSa shM 0) (fun a D M v e1 e2 => by cases e1; exact e2.symm) (ll24_0 D) rfl (e.symm.trans h) rfl
theorem m24 {l1 : Int32} {D : sm_D} {M : sm_M} {R : sm_S} (h : jR_isExpression l1 D M = some R) : sm_MJ smT smCl smSa shM f24 0 [.ref 1, .int l1] D M R :=
  sm_met (by decide) (Nat.le_of_ble_eq_true rfl) (List.all_eq_true.mp rfl) (we24  h)

-- jR_make
noncomputable def cal25  : sm_Cal := fun x as D M =>
  if x = 23 then (match as with
    | [.int a0] => (jR_partsOf a0 D M)
    | _ => none)
  else if x = 19 then (match as with
    | [.ref 1, .int a1] => (jR_isMade a1 D M)
    | _ => none)
  else if x = 24 then (match as with
    | [.ref 1, .int a1] => (jR_isExpression a1 D M)
    | _ => none)
  else none
theorem ck25  : sm_CalOk smT smCl smP smSa shM 1 cal25 := by
  intro x g as D M R hx h
  unfold cal25 at h
  by_cases hx' : x = 23
  · subst hx'
    rw [if_pos (show (23 : Nat) = 23 from rfl)] at h
    cases (show smP[23]? = some f23 from rfl).symm.trans hx
    split at h
    · skip
      exact Or.inl ⟨0, by omega, m23   h⟩
    · cases h
  · rw [if_neg hx'] at h
    by_cases hx' : x = 19
    · subst hx'
      rw [if_pos (show (19 : Nat) = 19 from rfl)] at h
      cases (show smP[19]? = some f19 from rfl).symm.trans hx
      split at h
      · skip
        exact Or.inl ⟨0, by omega, m19   h⟩
      · cases h
    · rw [if_neg hx'] at h
      by_cases hx' : x = 24
      · subst hx'
        rw [if_pos (show (24 : Nat) = 24 from rfl)] at h
        cases (show smP[24]? = some f24 from rfl).symm.trans hx
        split at h
        · skip
          exact Or.inl ⟨0, by omega, m24   h⟩
        · cases h
      · rw [if_neg hx'] at h
        cases h
set_option maxRecDepth 20000 in
set_option maxHeartbeats 4000000 in
theorem w25_24 {g0 g1 g2 g3 g4 g5 g6 g7 g8 : Value} {D : sm_D} {M : sm_M} {R : sm_S} (h : jR_make_24 D M = some R) : sm_WJ smT smCl smSa shM f25 1 24 [g0, g1, g2, g3, g4, g5, g6, g7, g8] [] D M R := by
  have e : jR_make_24 D M = (sm_run shM smSa cal25 c25 false (fun a D M => some (a, D, M)) sm_noleaf 161 (c25.drop 12) [g0, g1, g2, g3, g4, g5, g6, g7, g8] [] D M : Option (sm_S)) := rfl
  exact sm_blk (ρ := sm_S) (gd := (fun v => v = R)) (kx := 25) (i := 12) smVM rfl (by decide) ck25 (fun a D M v e1 e2 => by cases e1; exact e2.symm) (sm_noleaf_ok) rfl (e.symm.trans h) rfl
set_option maxRecDepth 20000 in
set_option maxHeartbeats 4000000 in
theorem w25_76 {g0 g1 g2 g3 g4 g5 g6 g7 g8 : Value} {D : sm_D} {M : sm_M} {R : sm_S} (h : jR_make_76 D M = some R) : sm_WJ smT smCl smSa shM f25 1 76 [g0, g1, g2, g3, g4, g5, g6, g7, g8] [] D M R := by
  have e : jR_make_76 D M = (sm_run shM smSa cal25 c25 false (fun a D M => some (a, D, M)) sm_noleaf 161 (c25.drop 41) [g0, g1, g2, g3, g4, g5, g6, g7, g8] [] D M : Option (sm_S)) := rfl
  exact sm_blk (ρ := sm_S) (gd := (fun v => v = R)) (kx := 25) (i := 41) smVM rfl (by decide) ck25 (fun a D M v e1 e2 => by cases e1; exact e2.symm) (sm_noleaf_ok) rfl (e.symm.trans h) rfl
set_option maxRecDepth 20000 in
set_option maxHeartbeats 4000000 in
theorem w25_121 {g0 g1 g2 g3 g4 g5 g6 g7 g8 : Value} {D : sm_D} {M : sm_M} {R : sm_S} (h : jR_make_121 D M = some R) : sm_WJ smT smCl smSa shM f25 1 121 [g0, g1, g2, g3, g4, g5, g6, g7, g8] [] D M R := by
  have e : jR_make_121 D M = (sm_run shM smSa cal25 c25 false (fun a D M => some (a, D, M)) sm_noleaf 161 (c25.drop 63) [g0, g1, g2, g3, g4, g5, g6, g7, g8] [] D M : Option (sm_S)) := rfl
  exact sm_blk (ρ := sm_S) (gd := (fun v => v = R)) (kx := 25) (i := 63) smVM rfl (by decide) ck25 (fun a D M v e1 e2 => by cases e1; exact e2.symm) (sm_noleaf_ok) rfl (e.symm.trans h) rfl
set_option maxRecDepth 20000 in
set_option maxHeartbeats 4000000 in
theorem w25_202 {l1 l2 l3 l4 l5 s0 : Int32} {g6 g7 g8 : Value} {D : sm_D} {M : sm_M} {R : sm_S} (h : jR_make_202 l1 l2 l3 l4 l5 s0 D M = some R) : sm_WJ smT smCl smSa shM f25 1 202 [.ref 1, .int l1, .int l2, .int l3, .int l4, .int l5, g6, g7, g8] [.int s0] D M R := by
  have e : jR_make_202 l1 l2 l3 l4 l5 s0 D M = (sm_run shM smSa cal25 c25 false (fun a D M => some (a, D, M)) sm_noleaf 161 (c25.drop 105) [.ref 1, .int l1, .int l2, .int l3, .int l4, .int l5, g6, g7, g8] [.int s0] D M : Option (sm_S)) := rfl
  exact sm_blk (ρ := sm_S) (gd := (fun v => v = R)) (kx := 25) (i := 105) smVM rfl (by decide) ck25 (fun a D M v e1 e2 => by cases e1; exact e2.symm) (sm_noleaf_ok) rfl (e.symm.trans h) rfl
noncomputable def lf25_200 (D : sm_D) : Nat → List Value → List Value → sm_D → sm_M → Option (sm_S) := fun pc ls st D' M =>
  if pc = 202 then (match ls, st with
    | [.ref 1, .int bl1, .int bl2, .int bl3, .int bl4, .int bl5, gl6, gl7, gl8], [.int bs0] => (jR_make_202 bl1 bl2 bl3 bl4 bl5 bs0 D' M)
    | _, _ => none)
  else none
theorem ll25_200 (D : sm_D) {R : sm_S} : ∀ (pc : Nat) (ls st : List Value) (D' : sm_D) (M : sm_M) (v : sm_S), (lf25_200 D) pc ls st D' M = some v → (fun v => v = R) v → sm_WJ smT smCl smSa shM f25 1 pc ls st D' M R := by
  intro pc ls st D' M v h hv
  unfold lf25_200 at h
  by_cases hp0 : pc = 202
  · subst hp0
    rw [if_pos (show (202 : Nat) = 202 from rfl)] at h
    split at h
    · skip
      have hv : v = R := hv
      subst hv
      exact w25_202  h
    · cases h
  · rw [if_neg hp0] at h
    cases h
set_option maxRecDepth 20000 in
set_option maxHeartbeats 4000000 in
theorem w25_200 {l1 l2 l3 l4 l5 l7 : Int32} {g6 g8 : Value} {D : sm_D} {M : sm_M} {R : sm_S} (h : jR_make_200 l1 l2 l3 l4 l5 l7 D M = some R) : sm_WJ smT smCl smSa shM f25 1 200 [.ref 1, .int l1, .int l2, .int l3, .int l4, .int l5, g6, .int l7, g8] [] D M R := by
  have e : jR_make_200 l1 l2 l3 l4 l5 l7 D M = (sm_run shM smSa cal25 c25 false (fun a D M => some (a, D, M)) (lf25_200 D) 161 (c25.drop 104) [.ref 1, .int l1, .int l2, .int l3, .int l4, .int l5, g6, .int l7, g8] [] D M : Option (sm_S)) := rfl
  exact sm_blk (ρ := sm_S) (gd := (fun v => v = R)) (kx := 25) (i := 104) smVM rfl (by decide) ck25 (fun a D M v e1 e2 => by cases e1; exact e2.symm) (ll25_200 D) rfl (e.symm.trans h) rfl
noncomputable def lf25_170 (D : sm_D) : Nat → List Value → List Value → sm_D → sm_M → Option (sm_S) := fun pc ls st D' M =>
  if pc = 200 then (match ls, st with
    | [.ref 1, .int bl1, .int bl2, .int bl3, .int bl4, .int bl5, gl6, .int bl7, gl8], [] => (jR_make_200 bl1 bl2 bl3 bl4 bl5 bl7 D' M)
    | _, _ => none)
  else if pc = 202 then (match ls, st with
    | [.ref 1, .int bl1, .int bl2, .int bl3, .int bl4, .int bl5, gl6, gl7, gl8], [.int bs0] => (jR_make_202 bl1 bl2 bl3 bl4 bl5 bs0 D' M)
    | _, _ => none)
  else none
theorem ll25_170 (D : sm_D) {R : sm_S} : ∀ (pc : Nat) (ls st : List Value) (D' : sm_D) (M : sm_M) (v : sm_S), (lf25_170 D) pc ls st D' M = some v → (fun v => v = R) v → sm_WJ smT smCl smSa shM f25 1 pc ls st D' M R := by
  intro pc ls st D' M v h hv
  unfold lf25_170 at h
  by_cases hp0 : pc = 200
  · subst hp0
    rw [if_pos (show (200 : Nat) = 200 from rfl)] at h
    split at h
    · skip
      have hv : v = R := hv
      subst hv
      exact w25_200  h
    · cases h
  · rw [if_neg hp0] at h
    by_cases hp0 : pc = 202
    · subst hp0
      rw [if_pos (show (202 : Nat) = 202 from rfl)] at h
      split at h
      · skip
        have hv : v = R := hv
        subst hv
        exact w25_202  h
      · cases h
    · rw [if_neg hp0] at h
      cases h
set_option maxRecDepth 20000 in
set_option maxHeartbeats 4000000 in
theorem w25_170 {l1 l2 l3 l4 l5 l6 s0 : Int32} {g7 g8 : Value} {D : sm_D} {M : sm_M} {R : sm_S} (h : jR_make_170 l1 l2 l3 l4 l5 l6 s0 D M = some R) : sm_WJ smT smCl smSa shM f25 1 170 [.ref 1, .int l1, .int l2, .int l3, .int l4, .int l5, .int l6, g7, g8] [.int s0] D M R := by
  have e : jR_make_170 l1 l2 l3 l4 l5 l6 s0 D M = (sm_run shM smSa cal25 c25 false (fun a D M => some (a, D, M)) (lf25_170 D) 161 (c25.drop 89) [.ref 1, .int l1, .int l2, .int l3, .int l4, .int l5, .int l6, g7, g8] [.int s0] D M : Option (sm_S)) := rfl
  exact sm_blk (ρ := sm_S) (gd := (fun v => v = R)) (kx := 25) (i := 89) smVM rfl (by decide) ck25 (fun a D M v e1 e2 => by cases e1; exact e2.symm) (ll25_170 D) rfl (e.symm.trans h) rfl
noncomputable def lf25_168 (D : sm_D) : Nat → List Value → List Value → sm_D → sm_M → Option (sm_S) := fun pc ls st D' M =>
  if pc = 170 then (match ls, st with
    | [.ref 1, .int bl1, .int bl2, .int bl3, .int bl4, .int bl5, .int bl6, gl7, gl8], [.int bs0] => (jR_make_170 bl1 bl2 bl3 bl4 bl5 bl6 bs0 D' M)
    | _, _ => none)
  else none
theorem ll25_168 (D : sm_D) {R : sm_S} : ∀ (pc : Nat) (ls st : List Value) (D' : sm_D) (M : sm_M) (v : sm_S), (lf25_168 D) pc ls st D' M = some v → (fun v => v = R) v → sm_WJ smT smCl smSa shM f25 1 pc ls st D' M R := by
  intro pc ls st D' M v h hv
  unfold lf25_168 at h
  by_cases hp0 : pc = 170
  · subst hp0
    rw [if_pos (show (170 : Nat) = 170 from rfl)] at h
    split at h
    · skip
      have hv : v = R := hv
      subst hv
      exact w25_170  h
    · cases h
  · rw [if_neg hp0] at h
    cases h
set_option maxRecDepth 20000 in
set_option maxHeartbeats 4000000 in
theorem w25_168 {l1 l2 l3 l4 l5 l6 l7 : Int32} {g8 : Value} {D : sm_D} {M : sm_M} {R : sm_S} (h : jR_make_168 l1 l2 l3 l4 l5 l6 l7 D M = some R) : sm_WJ smT smCl smSa shM f25 1 168 [.ref 1, .int l1, .int l2, .int l3, .int l4, .int l5, .int l6, .int l7, g8] [] D M R := by
  have e : jR_make_168 l1 l2 l3 l4 l5 l6 l7 D M = (sm_run shM smSa cal25 c25 false (fun a D M => some (a, D, M)) (lf25_168 D) 161 (c25.drop 88) [.ref 1, .int l1, .int l2, .int l3, .int l4, .int l5, .int l6, .int l7, g8] [] D M : Option (sm_S)) := rfl
  exact sm_blk (ρ := sm_S) (gd := (fun v => v = R)) (kx := 25) (i := 88) smVM rfl (by decide) ck25 (fun a D M v e1 e2 => by cases e1; exact e2.symm) (ll25_168 D) rfl (e.symm.trans h) rfl
noncomputable def lf25_138 (D : sm_D) : Nat → List Value → List Value → sm_D → sm_M → Option (sm_S) := fun pc ls st D' M =>
  if pc = 168 then (match ls, st with
    | [.ref 1, .int bl1, .int bl2, .int bl3, .int bl4, .int bl5, .int bl6, .int bl7, gl8], [] => (jR_make_168 bl1 bl2 bl3 bl4 bl5 bl6 bl7 D' M)
    | _, _ => none)
  else if pc = 170 then (match ls, st with
    | [.ref 1, .int bl1, .int bl2, .int bl3, .int bl4, .int bl5, .int bl6, gl7, gl8], [.int bs0] => (jR_make_170 bl1 bl2 bl3 bl4 bl5 bl6 bs0 D' M)
    | _, _ => none)
  else none
theorem ll25_138 (D : sm_D) {R : sm_S} : ∀ (pc : Nat) (ls st : List Value) (D' : sm_D) (M : sm_M) (v : sm_S), (lf25_138 D) pc ls st D' M = some v → (fun v => v = R) v → sm_WJ smT smCl smSa shM f25 1 pc ls st D' M R := by
  intro pc ls st D' M v h hv
  unfold lf25_138 at h
  by_cases hp0 : pc = 168
  · subst hp0
    rw [if_pos (show (168 : Nat) = 168 from rfl)] at h
    split at h
    · skip
      have hv : v = R := hv
      subst hv
      exact w25_168  h
    · cases h
  · rw [if_neg hp0] at h
    by_cases hp0 : pc = 170
    · subst hp0
      rw [if_pos (show (170 : Nat) = 170 from rfl)] at h
      split at h
      · skip
        have hv : v = R := hv
        subst hv
        exact w25_170  h
      · cases h
    · rw [if_neg hp0] at h
      cases h
set_option maxRecDepth 20000 in
set_option maxHeartbeats 4000000 in
theorem w25_138 {l1 l2 l3 l4 l5 l6 s0 : Int32} {g7 g8 : Value} {D : sm_D} {M : sm_M} {R : sm_S} (h : jR_make_138 l1 l2 l3 l4 l5 l6 s0 D M = some R) : sm_WJ smT smCl smSa shM f25 1 138 [.ref 1, .int l1, .int l2, .int l3, .int l4, .int l5, .int l6, g7, g8] [.int s0] D M R := by
  have e : jR_make_138 l1 l2 l3 l4 l5 l6 s0 D M = (sm_run shM smSa cal25 c25 false (fun a D M => some (a, D, M)) (lf25_138 D) 161 (c25.drop 73) [.ref 1, .int l1, .int l2, .int l3, .int l4, .int l5, .int l6, g7, g8] [.int s0] D M : Option (sm_S)) := rfl
  exact sm_blk (ρ := sm_S) (gd := (fun v => v = R)) (kx := 25) (i := 73) smVM rfl (by decide) ck25 (fun a D M v e1 e2 => by cases e1; exact e2.symm) (ll25_138 D) rfl (e.symm.trans h) rfl
noncomputable def lf25_123 (D : sm_D) : Nat → List Value → List Value → sm_D → sm_M → Option (sm_S) := fun pc ls st D' M =>
  if pc = 138 then (match ls, st with
    | [.ref 1, .int bl1, .int bl2, .int bl3, .int bl4, .int bl5, .int bl6, gl7, gl8], [.int bs0] => (jR_make_138 bl1 bl2 bl3 bl4 bl5 bl6 bs0 D' M)
    | _, _ => none)
  else none
theorem ll25_123 (D : sm_D) {R : sm_S} : ∀ (pc : Nat) (ls st : List Value) (D' : sm_D) (M : sm_M) (v : sm_S), (lf25_123 D) pc ls st D' M = some v → (fun v => v = R) v → sm_WJ smT smCl smSa shM f25 1 pc ls st D' M R := by
  intro pc ls st D' M v h hv
  unfold lf25_123 at h
  by_cases hp0 : pc = 138
  · subst hp0
    rw [if_pos (show (138 : Nat) = 138 from rfl)] at h
    split at h
    · skip
      have hv : v = R := hv
      subst hv
      exact w25_138  h
    · cases h
  · rw [if_neg hp0] at h
    cases h
set_option maxRecDepth 20000 in
set_option maxHeartbeats 4000000 in
theorem w25_123 {l1 l2 l3 l4 l5 l6 : Int32} {g7 g8 : Value} {D : sm_D} {M : sm_M} {R : sm_S} (h : jR_make_123 l1 l2 l3 l4 l5 l6 D M = some R) : sm_WJ smT smCl smSa shM f25 1 123 [.ref 1, .int l1, .int l2, .int l3, .int l4, .int l5, .int l6, g7, g8] [] D M R := by
  have e : jR_make_123 l1 l2 l3 l4 l5 l6 D M = (sm_run shM smSa cal25 c25 false (fun a D M => some (a, D, M)) (lf25_123 D) 161 (c25.drop 65) [.ref 1, .int l1, .int l2, .int l3, .int l4, .int l5, .int l6, g7, g8] [] D M : Option (sm_S)) := rfl
  exact sm_blk (ρ := sm_S) (gd := (fun v => v = R)) (kx := 25) (i := 65) smVM rfl (by decide) ck25 (fun a D M v e1 e2 => by cases e1; exact e2.symm) (ll25_123 D) rfl (e.symm.trans h) rfl
noncomputable def lf25_106 (D : sm_D) : Nat → List Value → List Value → sm_D → sm_M → Option (sm_S) := fun pc ls st D' M =>
  if pc = 121 then (match ls, st with
    | [gl0, gl1, gl2, gl3, gl4, gl5, gl6, gl7, gl8], [] => (jR_make_121 D' M)
    | _, _ => none)
  else if pc = 123 then (match ls, st with
    | [.ref 1, .int bl1, .int bl2, .int bl3, .int bl4, .int bl5, .int bl6, gl7, gl8], [] => (jR_make_123 bl1 bl2 bl3 bl4 bl5 bl6 D' M)
    | _, _ => none)
  else none
theorem ll25_106 (D : sm_D) {R : sm_S} : ∀ (pc : Nat) (ls st : List Value) (D' : sm_D) (M : sm_M) (v : sm_S), (lf25_106 D) pc ls st D' M = some v → (fun v => v = R) v → sm_WJ smT smCl smSa shM f25 1 pc ls st D' M R := by
  intro pc ls st D' M v h hv
  unfold lf25_106 at h
  by_cases hp0 : pc = 121
  · subst hp0
    rw [if_pos (show (121 : Nat) = 121 from rfl)] at h
    split at h
    · skip
      have hv : v = R := hv
      subst hv
      exact w25_121  h
    · cases h
  · rw [if_neg hp0] at h
    by_cases hp0 : pc = 123
    · subst hp0
      rw [if_pos (show (123 : Nat) = 123 from rfl)] at h
      split at h
      · skip
        have hv : v = R := hv
        subst hv
        exact w25_123  h
      · cases h
    · rw [if_neg hp0] at h
      cases h
set_option maxRecDepth 20000 in
set_option maxHeartbeats 4000000 in
theorem w25_106 {l1 l2 l3 l4 l5 l6 : Int32} {g7 g8 : Value} {D : sm_D} {M : sm_M} {R : sm_S} (h : jR_make_106 l1 l2 l3 l4 l5 l6 D M = some R) : sm_WJ smT smCl smSa shM f25 1 106 [.ref 1, .int l1, .int l2, .int l3, .int l4, .int l5, .int l6, g7, g8] [] D M R := by
  have e : jR_make_106 l1 l2 l3 l4 l5 l6 D M = (sm_run shM smSa cal25 c25 false (fun a D M => some (a, D, M)) (lf25_106 D) 161 (c25.drop 56) [.ref 1, .int l1, .int l2, .int l3, .int l4, .int l5, .int l6, g7, g8] [] D M : Option (sm_S)) := rfl
  exact sm_blk (ρ := sm_S) (gd := (fun v => v = R)) (kx := 25) (i := 56) smVM rfl (by decide) ck25 (fun a D M v e1 e2 => by cases e1; exact e2.symm) (ll25_106 D) rfl (e.symm.trans h) rfl
noncomputable def lf25_91 (D : sm_D) : Nat → List Value → List Value → sm_D → sm_M → Option (sm_S) := fun pc ls st D' M =>
  if pc = 106 then (match ls, st with
    | [.ref 1, .int bl1, .int bl2, .int bl3, .int bl4, .int bl5, .int bl6, gl7, gl8], [] => (jR_make_106 bl1 bl2 bl3 bl4 bl5 bl6 D' M)
    | _, _ => none)
  else if pc = 121 then (match ls, st with
    | [gl0, gl1, gl2, gl3, gl4, gl5, gl6, gl7, gl8], [] => (jR_make_121 D' M)
    | _, _ => none)
  else none
theorem ll25_91 (D : sm_D) {R : sm_S} : ∀ (pc : Nat) (ls st : List Value) (D' : sm_D) (M : sm_M) (v : sm_S), (lf25_91 D) pc ls st D' M = some v → (fun v => v = R) v → sm_WJ smT smCl smSa shM f25 1 pc ls st D' M R := by
  intro pc ls st D' M v h hv
  unfold lf25_91 at h
  by_cases hp0 : pc = 106
  · subst hp0
    rw [if_pos (show (106 : Nat) = 106 from rfl)] at h
    split at h
    · skip
      have hv : v = R := hv
      subst hv
      exact w25_106  h
    · cases h
  · rw [if_neg hp0] at h
    by_cases hp0 : pc = 121
    · subst hp0
      rw [if_pos (show (121 : Nat) = 121 from rfl)] at h
      split at h
      · skip
        have hv : v = R := hv
        subst hv
        exact w25_121  h
      · cases h
    · rw [if_neg hp0] at h
      cases h
set_option maxRecDepth 20000 in
set_option maxHeartbeats 4000000 in
theorem w25_91 {l1 l2 l3 l4 l5 l6 : Int32} {g7 g8 : Value} {D : sm_D} {M : sm_M} {R : sm_S} (h : jR_make_91 l1 l2 l3 l4 l5 l6 D M = some R) : sm_WJ smT smCl smSa shM f25 1 91 [.ref 1, .int l1, .int l2, .int l3, .int l4, .int l5, .int l6, g7, g8] [] D M R := by
  have e : jR_make_91 l1 l2 l3 l4 l5 l6 D M = (sm_run shM smSa cal25 c25 false (fun a D M => some (a, D, M)) (lf25_91 D) 161 (c25.drop 49) [.ref 1, .int l1, .int l2, .int l3, .int l4, .int l5, .int l6, g7, g8] [] D M : Option (sm_S)) := rfl
  exact sm_blk (ρ := sm_S) (gd := (fun v => v = R)) (kx := 25) (i := 49) smVM rfl (by decide) ck25 (fun a D M v e1 e2 => by cases e1; exact e2.symm) (ll25_91 D) rfl (e.symm.trans h) rfl
noncomputable def lf25_78 (D : sm_D) : Nat → List Value → List Value → sm_D → sm_M → Option (sm_S) := fun pc ls st D' M =>
  if pc = 91 then (match ls, st with
    | [.ref 1, .int bl1, .int bl2, .int bl3, .int bl4, .int bl5, .int bl6, gl7, gl8], [] => (jR_make_91 bl1 bl2 bl3 bl4 bl5 bl6 D' M)
    | _, _ => none)
  else if pc = 121 then (match ls, st with
    | [gl0, gl1, gl2, gl3, gl4, gl5, gl6, gl7, gl8], [] => (jR_make_121 D' M)
    | _, _ => none)
  else none
theorem ll25_78 (D : sm_D) {R : sm_S} : ∀ (pc : Nat) (ls st : List Value) (D' : sm_D) (M : sm_M) (v : sm_S), (lf25_78 D) pc ls st D' M = some v → (fun v => v = R) v → sm_WJ smT smCl smSa shM f25 1 pc ls st D' M R := by
  intro pc ls st D' M v h hv
  unfold lf25_78 at h
  by_cases hp0 : pc = 91
  · subst hp0
    rw [if_pos (show (91 : Nat) = 91 from rfl)] at h
    split at h
    · skip
      have hv : v = R := hv
      subst hv
      exact w25_91  h
    · cases h
  · rw [if_neg hp0] at h
    by_cases hp0 : pc = 121
    · subst hp0
      rw [if_pos (show (121 : Nat) = 121 from rfl)] at h
      split at h
      · skip
        have hv : v = R := hv
        subst hv
        exact w25_121  h
      · cases h
    · rw [if_neg hp0] at h
      cases h
set_option maxRecDepth 20000 in
set_option maxHeartbeats 4000000 in
theorem w25_78 {l1 l2 l3 l4 l5 l6 : Int32} {g7 g8 : Value} {D : sm_D} {M : sm_M} {R : sm_S} (h : jR_make_78 l1 l2 l3 l4 l5 l6 D M = some R) : sm_WJ smT smCl smSa shM f25 1 78 [.ref 1, .int l1, .int l2, .int l3, .int l4, .int l5, .int l6, g7, g8] [] D M R := by
  have e : jR_make_78 l1 l2 l3 l4 l5 l6 D M = (sm_run shM smSa cal25 c25 false (fun a D M => some (a, D, M)) (lf25_78 D) 161 (c25.drop 43) [.ref 1, .int l1, .int l2, .int l3, .int l4, .int l5, .int l6, g7, g8] [] D M : Option (sm_S)) := rfl
  exact sm_blk (ρ := sm_S) (gd := (fun v => v = R)) (kx := 25) (i := 43) smVM rfl (by decide) ck25 (fun a D M v e1 e2 => by cases e1; exact e2.symm) (ll25_78 D) rfl (e.symm.trans h) rfl
noncomputable def lf25_47 (D : sm_D) : Nat → List Value → List Value → sm_D → sm_M → Option (sm_S) := fun pc ls st D' M =>
  if pc = 76 then (match ls, st with
    | [gl0, gl1, gl2, gl3, gl4, gl5, gl6, gl7, gl8], [] => (jR_make_76 D' M)
    | _, _ => none)
  else if pc = 78 then (match ls, st with
    | [.ref 1, .int bl1, .int bl2, .int bl3, .int bl4, .int bl5, .int bl6, gl7, gl8], [] => (jR_make_78 bl1 bl2 bl3 bl4 bl5 bl6 D' M)
    | _, _ => none)
  else none
theorem ll25_47 (D : sm_D) {R : sm_S} : ∀ (pc : Nat) (ls st : List Value) (D' : sm_D) (M : sm_M) (v : sm_S), (lf25_47 D) pc ls st D' M = some v → (fun v => v = R) v → sm_WJ smT smCl smSa shM f25 1 pc ls st D' M R := by
  intro pc ls st D' M v h hv
  unfold lf25_47 at h
  by_cases hp0 : pc = 76
  · subst hp0
    rw [if_pos (show (76 : Nat) = 76 from rfl)] at h
    split at h
    · skip
      have hv : v = R := hv
      subst hv
      exact w25_76  h
    · cases h
  · rw [if_neg hp0] at h
    by_cases hp0 : pc = 78
    · subst hp0
      rw [if_pos (show (78 : Nat) = 78 from rfl)] at h
      split at h
      · skip
        have hv : v = R := hv
        subst hv
        exact w25_78  h
      · cases h
    · rw [if_neg hp0] at h
      cases h
set_option maxRecDepth 20000 in
set_option maxHeartbeats 4000000 in
theorem w25_47 {l1 l2 l3 l4 l5 l6 : Int32} {g7 g8 : Value} {D : sm_D} {M : sm_M} {R : sm_S} (h : jR_make_47 l1 l2 l3 l4 l5 l6 D M = some R) : sm_WJ smT smCl smSa shM f25 1 47 [.ref 1, .int l1, .int l2, .int l3, .int l4, .int l5, .int l6, g7, g8] [] D M R := by
  have e : jR_make_47 l1 l2 l3 l4 l5 l6 D M = (sm_run shM smSa cal25 c25 false (fun a D M => some (a, D, M)) (lf25_47 D) 161 (c25.drop 25) [.ref 1, .int l1, .int l2, .int l3, .int l4, .int l5, .int l6, g7, g8] [] D M : Option (sm_S)) := rfl
  exact sm_blk (ρ := sm_S) (gd := (fun v => v = R)) (kx := 25) (i := 25) smVM rfl (by decide) ck25 (fun a D M v e1 e2 => by cases e1; exact e2.symm) (ll25_47 D) rfl (e.symm.trans h) rfl
noncomputable def lf25_0 (D : sm_D) : Nat → List Value → List Value → sm_D → sm_M → Option (sm_S) := fun pc ls st D' M =>
  if pc = 24 then (match ls, st with
    | [gl0, gl1, gl2, gl3, gl4, gl5, gl6, gl7, gl8], [] => (jR_make_24 D' M)
    | _, _ => none)
  else if pc = 47 then (match ls, st with
    | [.ref 1, .int bl1, .int bl2, .int bl3, .int bl4, .int bl5, .int bl6, gl7, gl8], [] => (jR_make_47 bl1 bl2 bl3 bl4 bl5 bl6 D' M)
    | _, _ => none)
  else if pc = 76 then (match ls, st with
    | [gl0, gl1, gl2, gl3, gl4, gl5, gl6, gl7, gl8], [] => (jR_make_76 D' M)
    | _, _ => none)
  else none
theorem ll25_0 (D : sm_D) {R : sm_S} : ∀ (pc : Nat) (ls st : List Value) (D' : sm_D) (M : sm_M) (v : sm_S), (lf25_0 D) pc ls st D' M = some v → (fun v => v = R) v → sm_WJ smT smCl smSa shM f25 1 pc ls st D' M R := by
  intro pc ls st D' M v h hv
  unfold lf25_0 at h
  by_cases hp0 : pc = 24
  · subst hp0
    rw [if_pos (show (24 : Nat) = 24 from rfl)] at h
    split at h
    · skip
      have hv : v = R := hv
      subst hv
      exact w25_24  h
    · cases h
  · rw [if_neg hp0] at h
    by_cases hp0 : pc = 47
    · subst hp0
      rw [if_pos (show (47 : Nat) = 47 from rfl)] at h
      split at h
      · skip
        have hv : v = R := hv
        subst hv
        exact w25_47  h
      · cases h
    · rw [if_neg hp0] at h
      by_cases hp0 : pc = 76
      · subst hp0
        rw [if_pos (show (76 : Nat) = 76 from rfl)] at h
        split at h
        · skip
          have hv : v = R := hv
          subst hv
          exact w25_76  h
        · cases h
      · rw [if_neg hp0] at h
        cases h
set_option maxRecDepth 20000 in
set_option maxHeartbeats 4000000 in
theorem we25 {l1 l2 l3 l4 l5 : Int32} {D : sm_D} {M : sm_M} {R : sm_S} (h : jR_make l1 l2 l3 l4 l5 D M = some R) : sm_WJ smT smCl smSa shM f25 1 0 [.ref 1, .int l1, .int l2, .int l3, .int l4, .int l5, .retAddr 0, .retAddr 0, .retAddr 0] [] D M R := by
  have e : jR_make l1 l2 l3 l4 l5 D M = (sm_run shM smSa cal25 c25 false (fun a D M => some (a, D, M)) (lf25_0 D) 161 (c25.drop 0) [.ref 1, .int l1, .int l2, .int l3, .int l4, .int l5, .retAddr 0, .retAddr 0, .retAddr 0] [] D M : Option (sm_S)) := rfl
  exact sm_blk (ρ := sm_S) (gd := (fun v => v = R)) (kx := 25) (i := 0) smVM rfl (by decide) ck25 (fun a D M v e1 e2 => by cases e1; exact e2.symm) (ll25_0 D) rfl (e.symm.trans h) rfl
theorem m25 {l1 l2 l3 l4 l5 : Int32} {D : sm_D} {M : sm_M} {R : sm_S} (h : jR_make l1 l2 l3 l4 l5 D M = some R) : sm_MJ smT smCl smSa shM f25 1 [.ref 1, .int l1, .int l2, .int l3, .int l4, .int l5] D M R :=
  sm_met (by decide) (Nat.le_of_ble_eq_true rfl) (List.all_eq_true.mp rfl) (we25  h)

-- jR_begin
set_option maxRecDepth 20000 in
set_option maxHeartbeats 4000000 in
theorem we26 {l1 : Int32} {D : sm_D} {M : sm_M} {R : sm_S} (h : jR_begin l1 D M = some R) : sm_WJ smT smCl smSa shM f26 0 0 [.ref 1, .int l1] [] D M R := by
  have e : jR_begin l1 D M = (sm_run shM smSa sm_nocal c26 false (fun a D M => some (a, D, M)) sm_noleaf 24 (c26.drop 0) [.ref 1, .int l1] [] D M : Option (sm_S)) := rfl
  exact sm_blk (ρ := sm_S) (gd := (fun v => v = R)) (kx := 26) (i := 0) smVM rfl (by decide) (sm_nocal_ok smT smCl smP smSa shM 0) (fun a D M v e1 e2 => by cases e1; exact e2.symm) (sm_noleaf_ok) rfl (e.symm.trans h) rfl
theorem m26 {l1 : Int32} {D : sm_D} {M : sm_M} {R : sm_S} (h : jR_begin l1 D M = some R) : sm_MJ smT smCl smSa shM f26 0 [.ref 1, .int l1] D M R :=
  sm_met (by decide) (Nat.le_of_ble_eq_true rfl) (List.all_eq_true.mp rfl) (we26  h)

-- jR_typeNext
noncomputable def cal27  : sm_Cal := fun x as D M =>
  if x = 23 then (match as with
    | [.int a0] => (jR_partsOf a0 D M)
    | _ => none)
  else if x = 26 then (match as with
    | [.ref 1, .int a1] => (jR_begin a1 D M)
    | _ => none)
  else if x = 18 then (match as with
    | [.ref 1, .int a1, .int a2, .int a3, .int a4] => (jR_find a1 a2 a3 a4 D M)
    | _ => none)
  else none
theorem ck27  : sm_CalOk smT smCl smP smSa shM 2 cal27 := by
  intro x g as D M R hx h
  unfold cal27 at h
  by_cases hx' : x = 23
  · subst hx'
    rw [if_pos (show (23 : Nat) = 23 from rfl)] at h
    cases (show smP[23]? = some f23 from rfl).symm.trans hx
    split at h
    · skip
      exact Or.inl ⟨0, by omega, m23   h⟩
    · cases h
  · rw [if_neg hx'] at h
    by_cases hx' : x = 26
    · subst hx'
      rw [if_pos (show (26 : Nat) = 26 from rfl)] at h
      cases (show smP[26]? = some f26 from rfl).symm.trans hx
      split at h
      · skip
        exact Or.inl ⟨0, by omega, m26   h⟩
      · cases h
    · rw [if_neg hx'] at h
      by_cases hx' : x = 18
      · subst hx'
        rw [if_pos (show (18 : Nat) = 18 from rfl)] at h
        cases (show smP[18]? = some f18 from rfl).symm.trans hx
        split at h
        · skip
          exact Or.inl ⟨1, by omega, m18   h⟩
        · cases h
      · rw [if_neg hx'] at h
        cases h
set_option maxRecDepth 20000 in
set_option maxHeartbeats 4000000 in
theorem w27_110 {g0 g1 g2 g3 g4 g5 g6 : Value} {D : sm_D} {M : sm_M} {R : sm_S} (h : jR_typeNext_110 D M = some R) : sm_WJ smT smCl smSa shM f27 2 110 [g0, g1, g2, g3, g4, g5, g6] [] D M R := by
  have e : jR_typeNext_110 D M = (sm_run shM smSa cal27 c27 true (fun a D M => some (a, D, M)) sm_noleaf 304 (c27.drop 63) [g0, g1, g2, g3, g4, g5, g6] [] D M : Option (sm_S)) := rfl
  exact sm_blk (ρ := sm_S) (gd := (fun v => v = R)) (kx := 27) (i := 63) smVM rfl (by decide) ck27 (fun a D M v e1 e2 => by cases e1; exact e2.symm) (sm_noleaf_ok) rfl (e.symm.trans h) rfl
set_option maxRecDepth 20000 in
set_option maxHeartbeats 4000000 in
theorem w27_246 {s1 : Int32} {g0 g1 g2 g3 g4 g5 g6 : Value} {D : sm_D} {M : sm_M} {R : sm_S} (h : jR_typeNext_246 s1 D M = some R) : sm_WJ smT smCl smSa shM f27 2 246 [g0, g1, g2, g3, g4, g5, g6] [.int s1, .ref 1] D M R := by
  have e : jR_typeNext_246 s1 D M = (sm_run shM smSa cal27 c27 true (fun a D M => some (a, D, M)) sm_noleaf 304 (c27.drop 144) [g0, g1, g2, g3, g4, g5, g6] [.int s1, .ref 1] D M : Option (sm_S)) := rfl
  exact sm_blk (ρ := sm_S) (gd := (fun v => v = R)) (kx := 27) (i := 144) smVM rfl (by decide) ck27 (fun a D M v e1 e2 => by cases e1; exact e2.symm) (sm_noleaf_ok) rfl (e.symm.trans h) rfl
noncomputable def lf27_212 (D : sm_D) : Nat → List Value → List Value → sm_D → sm_M → Option (sm_S) := fun pc ls st D' M =>
  if pc = 246 then (match ls, st with
    | [gl0, gl1, gl2, gl3, gl4, gl5, gl6], [.int bs1, .ref 1] => (jR_typeNext_246 bs1 D' M)
    | _, _ => none)
  else none
theorem ll27_212 (D : sm_D) {R : sm_S} : ∀ (pc : Nat) (ls st : List Value) (D' : sm_D) (M : sm_M) (v : sm_S), (lf27_212 D) pc ls st D' M = some v → (fun v => v = R) v → sm_WJ smT smCl smSa shM f27 2 pc ls st D' M R := by
  intro pc ls st D' M v h hv
  unfold lf27_212 at h
  by_cases hp0 : pc = 246
  · subst hp0
    rw [if_pos (show (246 : Nat) = 246 from rfl)] at h
    split at h
    · skip
      have hv : v = R := hv
      subst hv
      exact w27_246  h
    · cases h
  · rw [if_neg hp0] at h
    cases h
set_option maxRecDepth 20000 in
set_option maxHeartbeats 4000000 in
theorem w27_212 {l2 l3 : Int32} {g1 g4 g5 g6 : Value} {D : sm_D} {M : sm_M} {R : sm_S} (h : jR_typeNext_212 l2 l3 D M = some R) : sm_WJ smT smCl smSa shM f27 2 212 [.ref 1, g1, .int l2, .int l3, g4, g5, g6] [] D M R := by
  have e : jR_typeNext_212 l2 l3 D M = (sm_run shM smSa cal27 c27 true (fun a D M => some (a, D, M)) (lf27_212 D) 304 (c27.drop 124) [.ref 1, g1, .int l2, .int l3, g4, g5, g6] [] D M : Option (sm_S)) := rfl
  exact sm_blk (ρ := sm_S) (gd := (fun v => v = R)) (kx := 27) (i := 124) smVM rfl (by decide) ck27 (fun a D M v e1 e2 => by cases e1; exact e2.symm) (ll27_212 D) rfl (e.symm.trans h) rfl
set_option maxRecDepth 20000 in
set_option maxHeartbeats 4000000 in
theorem w27_574 {l6 : Int32} {g0 g1 g2 g3 g4 g5 : Value} {D : sm_D} {M : sm_M} {R : sm_S} (h : jR_typeNext_574 l6 D M = some R) : sm_WJ smT smCl smSa shM f27 2 574 [g0, g1, g2, g3, g4, g5, .int l6] [] D M R := by
  have e : jR_typeNext_574 l6 D M = (sm_run shM smSa cal27 c27 true (fun a D M => some (a, D, M)) sm_noleaf 304 (c27.drop 297) [g0, g1, g2, g3, g4, g5, .int l6] [] D M : Option (sm_S)) := rfl
  exact sm_blk (ρ := sm_S) (gd := (fun v => v = R)) (kx := 27) (i := 297) smVM rfl (by decide) ck27 (fun a D M v e1 e2 => by cases e1; exact e2.symm) (sm_noleaf_ok) rfl (e.symm.trans h) rfl
noncomputable def lf27_372 (D : sm_D) : Nat → List Value → List Value → sm_D → sm_M → Option (sm_S) := fun pc ls st D' M =>
  if pc = 574 then (match ls, st with
    | [gl0, gl1, gl2, gl3, gl4, gl5, .int bl6], [] => (jR_typeNext_574 bl6 D' M)
    | _, _ => none)
  else none
theorem ll27_372 (D : sm_D) {R : sm_S} : ∀ (pc : Nat) (ls st : List Value) (D' : sm_D) (M : sm_M) (v : sm_S), (lf27_372 D) pc ls st D' M = some v → (fun v => v = R) v → sm_WJ smT smCl smSa shM f27 2 pc ls st D' M R := by
  intro pc ls st D' M v h hv
  unfold lf27_372 at h
  by_cases hp0 : pc = 574
  · subst hp0
    rw [if_pos (show (574 : Nat) = 574 from rfl)] at h
    split at h
    · skip
      have hv : v = R := hv
      subst hv
      exact w27_574  h
    · cases h
  · rw [if_neg hp0] at h
    cases h
set_option maxRecDepth 20000 in
set_option maxHeartbeats 4000000 in
theorem w27_372 {l6 s1 : Int32} {g0 g1 g2 g3 g4 g5 : Value} {D : sm_D} {M : sm_M} {R : sm_S} (h : jR_typeNext_372 l6 s1 D M = some R) : sm_WJ smT smCl smSa shM f27 2 372 [g0, g1, g2, g3, g4, g5, .int l6] [.int s1, .ref 1] D M R := by
  have e : jR_typeNext_372 l6 s1 D M = (sm_run shM smSa cal27 c27 true (fun a D M => some (a, D, M)) (lf27_372 D) 304 (c27.drop 189) [g0, g1, g2, g3, g4, g5, .int l6] [.int s1, .ref 1] D M : Option (sm_S)) := rfl
  exact sm_blk (ρ := sm_S) (gd := (fun v => v = R)) (kx := 27) (i := 189) smVM rfl (by decide) ck27 (fun a D M v e1 e2 => by cases e1; exact e2.symm) (ll27_372 D) rfl (e.symm.trans h) rfl
noncomputable def lf27_342 (D : sm_D) : Nat → List Value → List Value → sm_D → sm_M → Option (sm_S) := fun pc ls st D' M =>
  if pc = 372 then (match ls, st with
    | [gl0, gl1, gl2, gl3, gl4, gl5, .int bl6], [.int bs1, .ref 1] => (jR_typeNext_372 bl6 bs1 D' M)
    | _, _ => none)
  else none
theorem ll27_342 (D : sm_D) {R : sm_S} : ∀ (pc : Nat) (ls st : List Value) (D' : sm_D) (M : sm_M) (v : sm_S), (lf27_342 D) pc ls st D' M = some v → (fun v => v = R) v → sm_WJ smT smCl smSa shM f27 2 pc ls st D' M R := by
  intro pc ls st D' M v h hv
  unfold lf27_342 at h
  by_cases hp0 : pc = 372
  · subst hp0
    rw [if_pos (show (372 : Nat) = 372 from rfl)] at h
    split at h
    · skip
      have hv : v = R := hv
      subst hv
      exact w27_372  h
    · cases h
  · rw [if_neg hp0] at h
    cases h
set_option maxRecDepth 20000 in
set_option maxHeartbeats 4000000 in
theorem w27_342 {l2 s0 : Int32} {g1 g3 g4 g5 g6 : Value} {D : sm_D} {M : sm_M} {R : sm_S} (h : jR_typeNext_342 l2 s0 D M = some R) : sm_WJ smT smCl smSa shM f27 2 342 [.ref 1, g1, .int l2, g3, g4, g5, g6] [.int s0] D M R := by
  have e : jR_typeNext_342 l2 s0 D M = (sm_run shM smSa cal27 c27 true (fun a D M => some (a, D, M)) (lf27_342 D) 304 (c27.drop 171) [.ref 1, g1, .int l2, g3, g4, g5, g6] [.int s0] D M : Option (sm_S)) := rfl
  exact sm_blk (ρ := sm_S) (gd := (fun v => v = R)) (kx := 27) (i := 171) smVM rfl (by decide) ck27 (fun a D M v e1 e2 => by cases e1; exact e2.symm) (ll27_342 D) rfl (e.symm.trans h) rfl
noncomputable def lf27_390 (D : sm_D) : Nat → List Value → List Value → sm_D → sm_M → Option (sm_S) := fun pc ls st D' M =>
  if pc = 574 then (match ls, st with
    | [gl0, gl1, gl2, gl3, gl4, gl5, .int bl6], [] => (jR_typeNext_574 bl6 D' M)
    | _, _ => none)
  else none
theorem ll27_390 (D : sm_D) {R : sm_S} : ∀ (pc : Nat) (ls st : List Value) (D' : sm_D) (M : sm_M) (v : sm_S), (lf27_390 D) pc ls st D' M = some v → (fun v => v = R) v → sm_WJ smT smCl smSa shM f27 2 pc ls st D' M R := by
  intro pc ls st D' M v h hv
  unfold lf27_390 at h
  by_cases hp0 : pc = 574
  · subst hp0
    rw [if_pos (show (574 : Nat) = 574 from rfl)] at h
    split at h
    · skip
      have hv : v = R := hv
      subst hv
      exact w27_574  h
    · cases h
  · rw [if_neg hp0] at h
    cases h
set_option maxRecDepth 20000 in
set_option maxHeartbeats 4000000 in
theorem w27_390 {s0 : Int32} {g0 g1 g2 g3 g4 g5 g6 : Value} {D : sm_D} {M : sm_M} {R : sm_S} (h : jR_typeNext_390 s0 D M = some R) : sm_WJ smT smCl smSa shM f27 2 390 [g0, g1, g2, g3, g4, g5, g6] [.int s0] D M R := by
  have e : jR_typeNext_390 s0 D M = (sm_run shM smSa cal27 c27 true (fun a D M => some (a, D, M)) (lf27_390 D) 304 (c27.drop 197) [g0, g1, g2, g3, g4, g5, g6] [.int s0] D M : Option (sm_S)) := rfl
  exact sm_blk (ρ := sm_S) (gd := (fun v => v = R)) (kx := 27) (i := 197) smVM rfl (by decide) ck27 (fun a D M v e1 e2 => by cases e1; exact e2.symm) (ll27_390 D) rfl (e.symm.trans h) rfl
noncomputable def lf27_378 (D : sm_D) : Nat → List Value → List Value → sm_D → sm_M → Option (sm_S) := fun pc ls st D' M =>
  if pc = 390 then (match ls, st with
    | [gl0, gl1, gl2, gl3, gl4, gl5, gl6], [.int bs0] => (jR_typeNext_390 bs0 D' M)
    | _, _ => none)
  else none
theorem ll27_378 (D : sm_D) {R : sm_S} : ∀ (pc : Nat) (ls st : List Value) (D' : sm_D) (M : sm_M) (v : sm_S), (lf27_378 D) pc ls st D' M = some v → (fun v => v = R) v → sm_WJ smT smCl smSa shM f27 2 pc ls st D' M R := by
  intro pc ls st D' M v h hv
  unfold lf27_378 at h
  by_cases hp0 : pc = 390
  · subst hp0
    rw [if_pos (show (390 : Nat) = 390 from rfl)] at h
    split at h
    · skip
      have hv : v = R := hv
      subst hv
      exact w27_390  h
    · cases h
  · rw [if_neg hp0] at h
    cases h
set_option maxRecDepth 20000 in
set_option maxHeartbeats 4000000 in
theorem w27_378 {g1 g2 g3 g4 g5 g6 : Value} {D : sm_D} {M : sm_M} {R : sm_S} (h : jR_typeNext_378 D M = some R) : sm_WJ smT smCl smSa shM f27 2 378 [.ref 1, g1, g2, g3, g4, g5, g6] [] D M R := by
  have e : jR_typeNext_378 D M = (sm_run shM smSa cal27 c27 true (fun a D M => some (a, D, M)) (lf27_378 D) 304 (c27.drop 191) [.ref 1, g1, g2, g3, g4, g5, g6] [] D M : Option (sm_S)) := rfl
  exact sm_blk (ρ := sm_S) (gd := (fun v => v = R)) (kx := 27) (i := 191) smVM rfl (by decide) ck27 (fun a D M v e1 e2 => by cases e1; exact e2.symm) (ll27_378 D) rfl (e.symm.trans h) rfl
noncomputable def lf27_413 (D : sm_D) : Nat → List Value → List Value → sm_D → sm_M → Option (sm_S) := fun pc ls st D' M =>
  if pc = 574 then (match ls, st with
    | [gl0, gl1, gl2, gl3, gl4, gl5, .int bl6], [] => (jR_typeNext_574 bl6 D' M)
    | _, _ => none)
  else none
theorem ll27_413 (D : sm_D) {R : sm_S} : ∀ (pc : Nat) (ls st : List Value) (D' : sm_D) (M : sm_M) (v : sm_S), (lf27_413 D) pc ls st D' M = some v → (fun v => v = R) v → sm_WJ smT smCl smSa shM f27 2 pc ls st D' M R := by
  intro pc ls st D' M v h hv
  unfold lf27_413 at h
  by_cases hp0 : pc = 574
  · subst hp0
    rw [if_pos (show (574 : Nat) = 574 from rfl)] at h
    split at h
    · skip
      have hv : v = R := hv
      subst hv
      exact w27_574  h
    · cases h
  · rw [if_neg hp0] at h
    cases h
set_option maxRecDepth 20000 in
set_option maxHeartbeats 4000000 in
theorem w27_413 {s0 : Int32} {g0 g1 g2 g3 g4 g5 g6 : Value} {D : sm_D} {M : sm_M} {R : sm_S} (h : jR_typeNext_413 s0 D M = some R) : sm_WJ smT smCl smSa shM f27 2 413 [g0, g1, g2, g3, g4, g5, g6] [.int s0] D M R := by
  have e : jR_typeNext_413 s0 D M = (sm_run shM smSa cal27 c27 true (fun a D M => some (a, D, M)) (lf27_413 D) 304 (c27.drop 209) [g0, g1, g2, g3, g4, g5, g6] [.int s0] D M : Option (sm_S)) := rfl
  exact sm_blk (ρ := sm_S) (gd := (fun v => v = R)) (kx := 27) (i := 209) smVM rfl (by decide) ck27 (fun a D M v e1 e2 => by cases e1; exact e2.symm) (ll27_413 D) rfl (e.symm.trans h) rfl
noncomputable def lf27_456 (D : sm_D) : Nat → List Value → List Value → sm_D → sm_M → Option (sm_S) := fun pc ls st D' M =>
  if pc = 574 then (match ls, st with
    | [gl0, gl1, gl2, gl3, gl4, gl5, .int bl6], [] => (jR_typeNext_574 bl6 D' M)
    | _, _ => none)
  else none
theorem ll27_456 (D : sm_D) {R : sm_S} : ∀ (pc : Nat) (ls st : List Value) (D' : sm_D) (M : sm_M) (v : sm_S), (lf27_456 D) pc ls st D' M = some v → (fun v => v = R) v → sm_WJ smT smCl smSa shM f27 2 pc ls st D' M R := by
  intro pc ls st D' M v h hv
  unfold lf27_456 at h
  by_cases hp0 : pc = 574
  · subst hp0
    rw [if_pos (show (574 : Nat) = 574 from rfl)] at h
    split at h
    · skip
      have hv : v = R := hv
      subst hv
      exact w27_574  h
    · cases h
  · rw [if_neg hp0] at h
    cases h
set_option maxRecDepth 20000 in
set_option maxHeartbeats 4000000 in
theorem w27_456 {l2 s0 : Int32} {g1 g3 g4 g5 g6 : Value} {D : sm_D} {M : sm_M} {R : sm_S} (h : jR_typeNext_456 l2 s0 D M = some R) : sm_WJ smT smCl smSa shM f27 2 456 [.ref 1, g1, .int l2, g3, g4, g5, g6] [.int s0] D M R := by
  have e : jR_typeNext_456 l2 s0 D M = (sm_run shM smSa cal27 c27 true (fun a D M => some (a, D, M)) (lf27_456 D) 304 (c27.drop 233) [.ref 1, g1, .int l2, g3, g4, g5, g6] [.int s0] D M : Option (sm_S)) := rfl
  exact sm_blk (ρ := sm_S) (gd := (fun v => v = R)) (kx := 27) (i := 233) smVM rfl (by decide) ck27 (fun a D M v e1 e2 => by cases e1; exact e2.symm) (ll27_456 D) rfl (e.symm.trans h) rfl
noncomputable def lf27_499 (D : sm_D) : Nat → List Value → List Value → sm_D → sm_M → Option (sm_S) := fun pc ls st D' M =>
  if pc = 574 then (match ls, st with
    | [gl0, gl1, gl2, gl3, gl4, gl5, .int bl6], [] => (jR_typeNext_574 bl6 D' M)
    | _, _ => none)
  else none
theorem ll27_499 (D : sm_D) {R : sm_S} : ∀ (pc : Nat) (ls st : List Value) (D' : sm_D) (M : sm_M) (v : sm_S), (lf27_499 D) pc ls st D' M = some v → (fun v => v = R) v → sm_WJ smT smCl smSa shM f27 2 pc ls st D' M R := by
  intro pc ls st D' M v h hv
  unfold lf27_499 at h
  by_cases hp0 : pc = 574
  · subst hp0
    rw [if_pos (show (574 : Nat) = 574 from rfl)] at h
    split at h
    · skip
      have hv : v = R := hv
      subst hv
      exact w27_574  h
    · cases h
  · rw [if_neg hp0] at h
    cases h
set_option maxRecDepth 20000 in
set_option maxHeartbeats 4000000 in
theorem w27_499 {l1 s0 : Int32} {g2 g3 g4 g5 g6 : Value} {D : sm_D} {M : sm_M} {R : sm_S} (h : jR_typeNext_499 l1 s0 D M = some R) : sm_WJ smT smCl smSa shM f27 2 499 [.ref 1, .int l1, g2, g3, g4, g5, g6] [.int s0] D M R := by
  have e : jR_typeNext_499 l1 s0 D M = (sm_run shM smSa cal27 c27 true (fun a D M => some (a, D, M)) (lf27_499 D) 304 (c27.drop 257) [.ref 1, .int l1, g2, g3, g4, g5, g6] [.int s0] D M : Option (sm_S)) := rfl
  exact sm_blk (ρ := sm_S) (gd := (fun v => v = R)) (kx := 27) (i := 257) smVM rfl (by decide) ck27 (fun a D M v e1 e2 => by cases e1; exact e2.symm) (ll27_499 D) rfl (e.symm.trans h) rfl
noncomputable def lf27_571 (D : sm_D) : Nat → List Value → List Value → sm_D → sm_M → Option (sm_S) := fun pc ls st D' M =>
  if pc = 574 then (match ls, st with
    | [gl0, gl1, gl2, gl3, gl4, gl5, .int bl6], [] => (jR_typeNext_574 bl6 D' M)
    | _, _ => none)
  else none
theorem ll27_571 (D : sm_D) {R : sm_S} : ∀ (pc : Nat) (ls st : List Value) (D' : sm_D) (M : sm_M) (v : sm_S), (lf27_571 D) pc ls st D' M = some v → (fun v => v = R) v → sm_WJ smT smCl smSa shM f27 2 pc ls st D' M R := by
  intro pc ls st D' M v h hv
  unfold lf27_571 at h
  by_cases hp0 : pc = 574
  · subst hp0
    rw [if_pos (show (574 : Nat) = 574 from rfl)] at h
    split at h
    · skip
      have hv : v = R := hv
      subst hv
      exact w27_574  h
    · cases h
  · rw [if_neg hp0] at h
    cases h
set_option maxRecDepth 20000 in
set_option maxHeartbeats 4000000 in
theorem w27_571 {l6 s1 : Int32} {g0 g1 g2 g3 g4 g5 : Value} {D : sm_D} {M : sm_M} {R : sm_S} (h : jR_typeNext_571 l6 s1 D M = some R) : sm_WJ smT smCl smSa shM f27 2 571 [g0, g1, g2, g3, g4, g5, .int l6] [.int s1, .ref 1] D M R := by
  have e : jR_typeNext_571 l6 s1 D M = (sm_run shM smSa cal27 c27 true (fun a D M => some (a, D, M)) (lf27_571 D) 304 (c27.drop 296) [g0, g1, g2, g3, g4, g5, .int l6] [.int s1, .ref 1] D M : Option (sm_S)) := rfl
  exact sm_blk (ρ := sm_S) (gd := (fun v => v = R)) (kx := 27) (i := 296) smVM rfl (by decide) ck27 (fun a D M v e1 e2 => by cases e1; exact e2.symm) (ll27_571 D) rfl (e.symm.trans h) rfl
noncomputable def lf27_142 (D : sm_D) : Nat → List Value → List Value → sm_D → sm_M → Option (sm_S) := fun pc ls st D' M =>
  if pc = 212 then (match ls, st with
    | [.ref 1, gl1, .int bl2, .int bl3, gl4, gl5, gl6], [] => (jR_typeNext_212 bl2 bl3 D' M)
    | _, _ => none)
  else if pc = 342 then (match ls, st with
    | [.ref 1, gl1, .int bl2, gl3, gl4, gl5, gl6], [.int bs0] => (jR_typeNext_342 bl2 bs0 D' M)
    | _, _ => none)
  else if pc = 378 then (match ls, st with
    | [.ref 1, gl1, gl2, gl3, gl4, gl5, gl6], [] => (jR_typeNext_378 D' M)
    | _, _ => none)
  else if pc = 413 then (match ls, st with
    | [gl0, gl1, gl2, gl3, gl4, gl5, gl6], [.int bs0] => (jR_typeNext_413 bs0 D' M)
    | _, _ => none)
  else if pc = 456 then (match ls, st with
    | [.ref 1, gl1, .int bl2, gl3, gl4, gl5, gl6], [.int bs0] => (jR_typeNext_456 bl2 bs0 D' M)
    | _, _ => none)
  else if pc = 499 then (match ls, st with
    | [.ref 1, .int bl1, gl2, gl3, gl4, gl5, gl6], [.int bs0] => (jR_typeNext_499 bl1 bs0 D' M)
    | _, _ => none)
  else if pc = 571 then (match ls, st with
    | [gl0, gl1, gl2, gl3, gl4, gl5, .int bl6], [.int bs1, .ref 1] => (jR_typeNext_571 bl6 bs1 D' M)
    | _, _ => none)
  else if pc = 574 then (match ls, st with
    | [gl0, gl1, gl2, gl3, gl4, gl5, .int bl6], [] => (jR_typeNext_574 bl6 D' M)
    | _, _ => none)
  else none
theorem ll27_142 (D : sm_D) {R : sm_S} : ∀ (pc : Nat) (ls st : List Value) (D' : sm_D) (M : sm_M) (v : sm_S), (lf27_142 D) pc ls st D' M = some v → (fun v => v = R) v → sm_WJ smT smCl smSa shM f27 2 pc ls st D' M R := by
  intro pc ls st D' M v h hv
  unfold lf27_142 at h
  by_cases hp0 : pc = 212
  · subst hp0
    rw [if_pos (show (212 : Nat) = 212 from rfl)] at h
    split at h
    · skip
      have hv : v = R := hv
      subst hv
      exact w27_212  h
    · cases h
  · rw [if_neg hp0] at h
    by_cases hp0 : pc = 342
    · subst hp0
      rw [if_pos (show (342 : Nat) = 342 from rfl)] at h
      split at h
      · skip
        have hv : v = R := hv
        subst hv
        exact w27_342  h
      · cases h
    · rw [if_neg hp0] at h
      by_cases hp0 : pc = 378
      · subst hp0
        rw [if_pos (show (378 : Nat) = 378 from rfl)] at h
        split at h
        · skip
          have hv : v = R := hv
          subst hv
          exact w27_378  h
        · cases h
      · rw [if_neg hp0] at h
        by_cases hp0 : pc = 413
        · subst hp0
          rw [if_pos (show (413 : Nat) = 413 from rfl)] at h
          split at h
          · skip
            have hv : v = R := hv
            subst hv
            exact w27_413  h
          · cases h
        · rw [if_neg hp0] at h
          by_cases hp0 : pc = 456
          · subst hp0
            rw [if_pos (show (456 : Nat) = 456 from rfl)] at h
            split at h
            · skip
              have hv : v = R := hv
              subst hv
              exact w27_456  h
            · cases h
          · rw [if_neg hp0] at h
            by_cases hp0 : pc = 499
            · subst hp0
              rw [if_pos (show (499 : Nat) = 499 from rfl)] at h
              split at h
              · skip
                have hv : v = R := hv
                subst hv
                exact w27_499  h
              · cases h
            · rw [if_neg hp0] at h
              by_cases hp0 : pc = 571
              · subst hp0
                rw [if_pos (show (571 : Nat) = 571 from rfl)] at h
                split at h
                · skip
                  have hv : v = R := hv
                  subst hv
                  exact w27_571  h
                · cases h
              · rw [if_neg hp0] at h
                by_cases hp0 : pc = 574
                · subst hp0
                  rw [if_pos (show (574 : Nat) = 574 from rfl)] at h
                  split at h
                  · skip
                    have hv : v = R := hv
                    subst hv
                    exact w27_574  h
                  · cases h
                · rw [if_neg hp0] at h
                  cases h
set_option maxRecDepth 20000 in
set_option maxHeartbeats 4000000 in
theorem w27_142 {l1 l2 l3 l4 l5 : Int32} {g6 : Value} {D : sm_D} {M : sm_M} {R : sm_S} (h : jR_typeNext_142 l1 l2 l3 l4 l5 D M = some R) : sm_WJ smT smCl smSa shM f27 2 142 [.ref 1, .int l1, .int l2, .int l3, .int l4, .int l5, g6] [] D M R := by
  have e : jR_typeNext_142 l1 l2 l3 l4 l5 D M = (sm_run shM smSa cal27 c27 true (fun a D M => some (a, D, M)) (lf27_142 D) 304 (c27.drop 83) [.ref 1, .int l1, .int l2, .int l3, .int l4, .int l5, g6] [] D M : Option (sm_S)) := rfl
  exact sm_blk (ρ := sm_S) (gd := (fun v => v = R)) (kx := 27) (i := 83) smVM rfl (by decide) ck27 (fun a D M v e1 e2 => by cases e1; exact e2.symm) (ll27_142 D) rfl (e.symm.trans h) rfl
noncomputable def lf27_127 (D : sm_D) : Nat → List Value → List Value → sm_D → sm_M → Option (sm_S) := fun pc ls st D' M =>
  if pc = 142 then (match ls, st with
    | [.ref 1, .int bl1, .int bl2, .int bl3, .int bl4, .int bl5, gl6], [] => (jR_typeNext_142 bl1 bl2 bl3 bl4 bl5 D' M)
    | _, _ => none)
  else none
theorem ll27_127 (D : sm_D) {R : sm_S} : ∀ (pc : Nat) (ls st : List Value) (D' : sm_D) (M : sm_M) (v : sm_S), (lf27_127 D) pc ls st D' M = some v → (fun v => v = R) v → sm_WJ smT smCl smSa shM f27 2 pc ls st D' M R := by
  intro pc ls st D' M v h hv
  unfold lf27_127 at h
  by_cases hp0 : pc = 142
  · subst hp0
    rw [if_pos (show (142 : Nat) = 142 from rfl)] at h
    split at h
    · skip
      have hv : v = R := hv
      subst hv
      exact w27_142  h
    · cases h
  · rw [if_neg hp0] at h
    cases h
set_option maxRecDepth 20000 in
set_option maxHeartbeats 4000000 in
theorem w27_127 {l1 l2 l3 l4 l5 : Int32} {g6 : Value} {D : sm_D} {M : sm_M} {R : sm_S} (h : jR_typeNext_127 l1 l2 l3 l4 l5 D M = some R) : sm_WJ smT smCl smSa shM f27 2 127 [.ref 1, .int l1, .int l2, .int l3, .int l4, .int l5, g6] [] D M R := by
  have e : jR_typeNext_127 l1 l2 l3 l4 l5 D M = (sm_run shM smSa cal27 c27 true (fun a D M => some (a, D, M)) (lf27_127 D) 304 (c27.drop 74) [.ref 1, .int l1, .int l2, .int l3, .int l4, .int l5, g6] [] D M : Option (sm_S)) := rfl
  exact sm_blk (ρ := sm_S) (gd := (fun v => v = R)) (kx := 27) (i := 74) smVM rfl (by decide) ck27 (fun a D M v e1 e2 => by cases e1; exact e2.symm) (ll27_127 D) rfl (e.symm.trans h) rfl
noncomputable def lf27_112 (D : sm_D) : Nat → List Value → List Value → sm_D → sm_M → Option (sm_S) := fun pc ls st D' M =>
  if pc = 127 then (match ls, st with
    | [.ref 1, .int bl1, .int bl2, .int bl3, .int bl4, .int bl5, gl6], [] => (jR_typeNext_127 bl1 bl2 bl3 bl4 bl5 D' M)
    | _, _ => none)
  else none
theorem ll27_112 (D : sm_D) {R : sm_S} : ∀ (pc : Nat) (ls st : List Value) (D' : sm_D) (M : sm_M) (v : sm_S), (lf27_112 D) pc ls st D' M = some v → (fun v => v = R) v → sm_WJ smT smCl smSa shM f27 2 pc ls st D' M R := by
  intro pc ls st D' M v h hv
  unfold lf27_112 at h
  by_cases hp0 : pc = 127
  · subst hp0
    rw [if_pos (show (127 : Nat) = 127 from rfl)] at h
    split at h
    · skip
      have hv : v = R := hv
      subst hv
      exact w27_127  h
    · cases h
  · rw [if_neg hp0] at h
    cases h
set_option maxRecDepth 20000 in
set_option maxHeartbeats 4000000 in
theorem w27_112 {l1 l2 l3 l4 l5 : Int32} {g6 : Value} {D : sm_D} {M : sm_M} {R : sm_S} (h : jR_typeNext_112 l1 l2 l3 l4 l5 D M = some R) : sm_WJ smT smCl smSa shM f27 2 112 [.ref 1, .int l1, .int l2, .int l3, .int l4, .int l5, g6] [] D M R := by
  have e : jR_typeNext_112 l1 l2 l3 l4 l5 D M = (sm_run shM smSa cal27 c27 true (fun a D M => some (a, D, M)) (lf27_112 D) 304 (c27.drop 65) [.ref 1, .int l1, .int l2, .int l3, .int l4, .int l5, g6] [] D M : Option (sm_S)) := rfl
  exact sm_blk (ρ := sm_S) (gd := (fun v => v = R)) (kx := 27) (i := 65) smVM rfl (by decide) ck27 (fun a D M v e1 e2 => by cases e1; exact e2.symm) (ll27_112 D) rfl (e.symm.trans h) rfl
noncomputable def lf27_90 (D : sm_D) : Nat → List Value → List Value → sm_D → sm_M → Option (sm_S) := fun pc ls st D' M =>
  if pc = 110 then (match ls, st with
    | [gl0, gl1, gl2, gl3, gl4, gl5, gl6], [] => (jR_typeNext_110 D' M)
    | _, _ => none)
  else if pc = 112 then (match ls, st with
    | [.ref 1, .int bl1, .int bl2, .int bl3, .int bl4, .int bl5, gl6], [] => (jR_typeNext_112 bl1 bl2 bl3 bl4 bl5 D' M)
    | _, _ => none)
  else none
theorem ll27_90 (D : sm_D) {R : sm_S} : ∀ (pc : Nat) (ls st : List Value) (D' : sm_D) (M : sm_M) (v : sm_S), (lf27_90 D) pc ls st D' M = some v → (fun v => v = R) v → sm_WJ smT smCl smSa shM f27 2 pc ls st D' M R := by
  intro pc ls st D' M v h hv
  unfold lf27_90 at h
  by_cases hp0 : pc = 110
  · subst hp0
    rw [if_pos (show (110 : Nat) = 110 from rfl)] at h
    split at h
    · skip
      have hv : v = R := hv
      subst hv
      exact w27_110  h
    · cases h
  · rw [if_neg hp0] at h
    by_cases hp0 : pc = 112
    · subst hp0
      rw [if_pos (show (112 : Nat) = 112 from rfl)] at h
      split at h
      · skip
        have hv : v = R := hv
        subst hv
        exact w27_112  h
      · cases h
    · rw [if_neg hp0] at h
      cases h
set_option maxRecDepth 20000 in
set_option maxHeartbeats 4000000 in
theorem w27_90 {l1 l2 l3 l4 l5 : Int32} {g6 : Value} {D : sm_D} {M : sm_M} {R : sm_S} (h : jR_typeNext_90 l1 l2 l3 l4 l5 D M = some R) : sm_WJ smT smCl smSa shM f27 2 90 [.ref 1, .int l1, .int l2, .int l3, .int l4, .int l5, g6] [] D M R := by
  have e : jR_typeNext_90 l1 l2 l3 l4 l5 D M = (sm_run shM smSa cal27 c27 true (fun a D M => some (a, D, M)) (lf27_90 D) 304 (c27.drop 53) [.ref 1, .int l1, .int l2, .int l3, .int l4, .int l5, g6] [] D M : Option (sm_S)) := rfl
  exact sm_blk (ρ := sm_S) (gd := (fun v => v = R)) (kx := 27) (i := 53) smVM rfl (by decide) ck27 (fun a D M v e1 e2 => by cases e1; exact e2.symm) (ll27_90 D) rfl (e.symm.trans h) rfl
noncomputable def lf27_70 (D : sm_D) : Nat → List Value → List Value → sm_D → sm_M → Option (sm_S) := fun pc ls st D' M =>
  if pc = 90 then (match ls, st with
    | [.ref 1, .int bl1, .int bl2, .int bl3, .int bl4, .int bl5, gl6], [] => (jR_typeNext_90 bl1 bl2 bl3 bl4 bl5 D' M)
    | _, _ => none)
  else if pc = 110 then (match ls, st with
    | [gl0, gl1, gl2, gl3, gl4, gl5, gl6], [] => (jR_typeNext_110 D' M)
    | _, _ => none)
  else none
theorem ll27_70 (D : sm_D) {R : sm_S} : ∀ (pc : Nat) (ls st : List Value) (D' : sm_D) (M : sm_M) (v : sm_S), (lf27_70 D) pc ls st D' M = some v → (fun v => v = R) v → sm_WJ smT smCl smSa shM f27 2 pc ls st D' M R := by
  intro pc ls st D' M v h hv
  unfold lf27_70 at h
  by_cases hp0 : pc = 90
  · subst hp0
    rw [if_pos (show (90 : Nat) = 90 from rfl)] at h
    split at h
    · skip
      have hv : v = R := hv
      subst hv
      exact w27_90  h
    · cases h
  · rw [if_neg hp0] at h
    by_cases hp0 : pc = 110
    · subst hp0
      rw [if_pos (show (110 : Nat) = 110 from rfl)] at h
      split at h
      · skip
        have hv : v = R := hv
        subst hv
        exact w27_110  h
      · cases h
    · rw [if_neg hp0] at h
      cases h
set_option maxRecDepth 20000 in
set_option maxHeartbeats 4000000 in
theorem w27_70 {l1 l2 l3 l4 l5 : Int32} {g6 : Value} {D : sm_D} {M : sm_M} {R : sm_S} (h : jR_typeNext_70 l1 l2 l3 l4 l5 D M = some R) : sm_WJ smT smCl smSa shM f27 2 70 [.ref 1, .int l1, .int l2, .int l3, .int l4, .int l5, g6] [] D M R := by
  have e : jR_typeNext_70 l1 l2 l3 l4 l5 D M = (sm_run shM smSa cal27 c27 true (fun a D M => some (a, D, M)) (lf27_70 D) 304 (c27.drop 43) [.ref 1, .int l1, .int l2, .int l3, .int l4, .int l5, g6] [] D M : Option (sm_S)) := rfl
  exact sm_blk (ρ := sm_S) (gd := (fun v => v = R)) (kx := 27) (i := 43) smVM rfl (by decide) ck27 (fun a D M v e1 e2 => by cases e1; exact e2.symm) (ll27_70 D) rfl (e.symm.trans h) rfl
noncomputable def lf27_0 (D : sm_D) : Nat → List Value → List Value → sm_D → sm_M → Option (sm_S) := fun pc ls st D' M =>
  if pc = 70 then (match ls, st with
    | [.ref 1, .int bl1, .int bl2, .int bl3, .int bl4, .int bl5, gl6], [] => (jR_typeNext_70 bl1 bl2 bl3 bl4 bl5 D' M)
    | _, _ => none)
  else if pc = 110 then (match ls, st with
    | [gl0, gl1, gl2, gl3, gl4, gl5, gl6], [] => (jR_typeNext_110 D' M)
    | _, _ => none)
  else if pc = 112 then (match ls, st with
    | [.ref 1, .int bl1, .int bl2, .int bl3, .int bl4, .int bl5, gl6], [] => (jR_typeNext_112 bl1 bl2 bl3 bl4 bl5 D' M)
    | _, _ => none)
  else none
theorem ll27_0 (D : sm_D) {R : sm_S} : ∀ (pc : Nat) (ls st : List Value) (D' : sm_D) (M : sm_M) (v : sm_S), (lf27_0 D) pc ls st D' M = some v → (fun v => v = R) v → sm_WJ smT smCl smSa shM f27 2 pc ls st D' M R := by
  intro pc ls st D' M v h hv
  unfold lf27_0 at h
  by_cases hp0 : pc = 70
  · subst hp0
    rw [if_pos (show (70 : Nat) = 70 from rfl)] at h
    split at h
    · skip
      have hv : v = R := hv
      subst hv
      exact w27_70  h
    · cases h
  · rw [if_neg hp0] at h
    by_cases hp0 : pc = 110
    · subst hp0
      rw [if_pos (show (110 : Nat) = 110 from rfl)] at h
      split at h
      · skip
        have hv : v = R := hv
        subst hv
        exact w27_110  h
      · cases h
    · rw [if_neg hp0] at h
      by_cases hp0 : pc = 112
      · subst hp0
        rw [if_pos (show (112 : Nat) = 112 from rfl)] at h
        split at h
        · skip
          have hv : v = R := hv
          subst hv
          exact w27_112  h
        · cases h
      · rw [if_neg hp0] at h
        cases h
set_option maxRecDepth 20000 in
set_option maxHeartbeats 4000000 in
theorem we27 {D : sm_D} {M : sm_M} {R : sm_S} (h : jR_typeNext D M = some R) : sm_WJ smT smCl smSa shM f27 2 0 [.ref 1, .retAddr 0, .retAddr 0, .retAddr 0, .retAddr 0, .retAddr 0, .retAddr 0] [] D M R := by
  have e : jR_typeNext D M = (sm_run shM smSa cal27 c27 true (fun a D M => some (a, D, M)) (lf27_0 D) 304 (c27.drop 0) [.ref 1, .retAddr 0, .retAddr 0, .retAddr 0, .retAddr 0, .retAddr 0, .retAddr 0] [] D M : Option (sm_S)) := rfl
  exact sm_blk (ρ := sm_S) (gd := (fun v => v = R)) (kx := 27) (i := 0) smVM rfl (by decide) ck27 (fun a D M v e1 e2 => by cases e1; exact e2.symm) (ll27_0 D) rfl (e.symm.trans h) rfl
theorem m27 {D : sm_D} {M : sm_M} {R : sm_S} (h : jR_typeNext D M = some R) : sm_MJ smT smCl smSa shM f27 2 [.ref 1] D M R :=
  sm_met (by decide) (Nat.le_of_ble_eq_true rfl) (List.all_eq_true.mp rfl) (we27  h)

-- jR_typeOf
noncomputable def cal28  : sm_Cal := fun x as D M =>
  if x = 26 then (match as with
    | [.ref 1, .int a1] => (jR_begin a1 D M)
    | _ => none)
  else if x = 27 then (match as with
    | [.ref 1] => (jR_typeNext D M)
    | _ => none)
  else none
theorem ck28  : sm_CalOk smT smCl smP smSa shM 3 cal28 := by
  intro x g as D M R hx h
  unfold cal28 at h
  by_cases hx' : x = 26
  · subst hx'
    rw [if_pos (show (26 : Nat) = 26 from rfl)] at h
    cases (show smP[26]? = some f26 from rfl).symm.trans hx
    split at h
    · skip
      exact Or.inl ⟨0, by omega, m26   h⟩
    · cases h
  · rw [if_neg hx'] at h
    by_cases hx' : x = 27
    · subst hx'
      rw [if_pos (show (27 : Nat) = 27 from rfl)] at h
      cases (show smP[27]? = some f27 from rfl).symm.trans hx
      split at h
      · skip
        exact Or.inl ⟨2, by omega, m27   h⟩
      · cases h
    · rw [if_neg hx'] at h
      cases h
set_option maxRecDepth 20000 in
set_option maxHeartbeats 4000000 in
theorem w28_48 {s0 : Int32} {g0 g1 g2 : Value} {D : sm_D} {M : sm_M} {R : sm_S} (h : jR_typeOf_48 s0 D M = some R) : sm_WJ smT smCl smSa shM f28 3 48 [g0, g1, g2] [.int s0] D M R := by
  have e : jR_typeOf_48 s0 D M = (sm_run shM smSa cal28 c28 false (fun a D M => some (a, D, M)) sm_noleaf 32 (c28.drop 26) [g0, g1, g2] [.int s0] D M : Option (sm_S)) := rfl
  exact sm_blk (ρ := sm_S) (gd := (fun v => v = R)) (kx := 28) (i := 26) smVM rfl (by decide) ck28 (fun a D M v e1 e2 => by cases e1; exact e2.symm) (sm_noleaf_ok) rfl (e.symm.trans h) rfl
noncomputable def lf28_36 (D : sm_D) : Nat → List Value → List Value → sm_D → sm_M → Option (sm_S) := fun pc ls st D' M =>
  if pc = 48 then (match ls, st with
    | [gl0, gl1, gl2], [.int bs0] => (jR_typeOf_48 bs0 D' M)
    | _, _ => none)
  else none
theorem ll28_36 (D : sm_D) {R : sm_S} : ∀ (pc : Nat) (ls st : List Value) (D' : sm_D) (M : sm_M) (v : sm_S), (lf28_36 D) pc ls st D' M = some v → (fun v => v = R) v → sm_WJ smT smCl smSa shM f28 3 pc ls st D' M R := by
  intro pc ls st D' M v h hv
  unfold lf28_36 at h
  by_cases hp0 : pc = 48
  · subst hp0
    rw [if_pos (show (48 : Nat) = 48 from rfl)] at h
    split at h
    · skip
      have hv : v = R := hv
      subst hv
      exact w28_48  h
    · cases h
  · rw [if_neg hp0] at h
    cases h
set_option maxRecDepth 20000 in
set_option maxHeartbeats 4000000 in
theorem w28_36 {l2 : Int32} {g1 : Value} {D : sm_D} {M : sm_M} {R : sm_S} (h : jR_typeOf_36 l2 D M = some R) : sm_WJ smT smCl smSa shM f28 3 36 [.ref 1, g1, .int l2] [] D M R := by
  have e : jR_typeOf_36 l2 D M = (sm_run shM smSa cal28 c28 false (fun a D M => some (a, D, M)) (lf28_36 D) 32 (c28.drop 20) [.ref 1, g1, .int l2] [] D M : Option (sm_S)) := rfl
  exact sm_blk (ρ := sm_S) (gd := (fun v => v = R)) (kx := 28) (i := 20) smVM rfl (by decide) ck28 (fun a D M v e1 e2 => by cases e1; exact e2.symm) (ll28_36 D) rfl (e.symm.trans h) rfl
def lh28_17 (D : sm_D) (R : sm_S) (s : Int32 × sm_M) : Prop := ∀ (g1 : Value), sm_WJ smT smCl smSa shM f28 3 17 [.ref 1, g1, .int (s.1)] [] D (s.2) R
def gd28_17 (D : sm_D) (R : sm_S) (v : (Int32 × sm_M) ⊕ sm_S) : Prop := match v with
  | .inl s => lh28_17 D R s
  | .inr r => r = R
noncomputable def lf28_17 (D : sm_D) : Nat → List Value → List Value → sm_D → sm_M → Option ((Int32 × sm_M) ⊕ sm_S) := fun pc ls st D' M =>
  if pc = 17 then (match ls, st with
    | [.ref 1, gl1, .int bl2], [] => (sm_dq D' D (some (.inl (bl2, M))))
    | _, _ => none)
  else if pc = 36 then (match ls, st with
    | [.ref 1, gl1, .int bl2], [] => (sm_inr (jR_typeOf_36 bl2 D' M))
    | _, _ => none)
  else none
theorem ll28_17 (D : sm_D) {R : sm_S} : ∀ (pc : Nat) (ls st : List Value) (D' : sm_D) (M : sm_M) (v : (Int32 × sm_M) ⊕ sm_S), (lf28_17 D) pc ls st D' M = some v → (gd28_17 D R) v → sm_WJ smT smCl smSa shM f28 3 pc ls st D' M R := by
  intro pc ls st D' M v h hv
  unfold lf28_17 at h
  by_cases hp0 : pc = 17
  · subst hp0
    rw [if_pos (show (17 : Nat) = 17 from rfl)] at h
    split at h
    · skip
      replace h := sm_dq_inv h
      obtain ⟨he, h⟩ := h
      subst he
      cases h
      exact hv _
    · cases h
  · rw [if_neg hp0] at h
    by_cases hp0 : pc = 36
    · subst hp0
      rw [if_pos (show (36 : Nat) = 36 from rfl)] at h
      split at h
      · skip
        replace h := sm_inr_inv h
        obtain ⟨r, h, he⟩ := h
        subst he
        have hv : r = R := hv
        subst hv
        exact w28_36  h
      · cases h
    · rw [if_neg hp0] at h
      cases h
set_option maxRecDepth 20000 in
set_option maxHeartbeats 4000000 in
theorem wc28_17 (D : sm_D) {l2 : Int32} {g1 : Value} {M : sm_M} {R : sm_S} {v : (Int32 × sm_M) ⊕ sm_S} (h : jR_typeOf_17_c l2 D M = some v) (hv : (gd28_17 D R) v) : sm_WJ smT smCl smSa shM f28 3 17 [.ref 1, g1, .int l2] [] D M R := by
  have e : jR_typeOf_17_c l2 D M = (sm_run shM smSa cal28 c28 false (fun a D M => some (.inr (a, D, M))) (lf28_17 D) 32 (c28.drop 11) [.ref 1, g1, .int l2] [] D M : Option ((Int32 × sm_M) ⊕ sm_S)) := rfl
  exact sm_blk (ρ := (Int32 × sm_M) ⊕ sm_S) (gd := (gd28_17 D R)) (kx := 28) (i := 11) smVM rfl (by decide) ck28 (fun a D M v e1 e2 => by cases e1; exact e2.symm) (ll28_17 D) rfl (e.symm.trans h) hv
theorem w28_17 {l2 : Int32} {g1 : Value} {D : sm_D} {M : sm_M} {R : sm_S} (h : jR_typeOf_17 l2 D M = some R) : sm_WJ smT smCl smSa shM f28 3 17 [.ref 1, g1, .int l2] [] D M R := by
  have hh : lh28_17 D R (l2, M) := by
    refine sm_lp_ind (b := jR_typeOf_17_b D) (r := R) (lh28_17 D R) ?_ h
    intro s v hb h1 h2
    obtain ⟨z0, M1⟩ := s
    have hv : gd28_17 D R v := by
      cases v with
      | inl s' => exact h1 s' rfl
      | inr r => exact h2 r rfl
    intro g1
    exact wc28_17 D hb hv
  exact hh _
noncomputable def lf28_0 (D : sm_D) : Nat → List Value → List Value → sm_D → sm_M → Option (sm_S) := fun pc ls st D' M =>
  if pc = 17 then (match ls, st with
    | [.ref 1, gl1, .int bl2], [] => (jR_typeOf_17 bl2 D' M)
    | _, _ => none)
  else none
theorem ll28_0 (D : sm_D) {R : sm_S} : ∀ (pc : Nat) (ls st : List Value) (D' : sm_D) (M : sm_M) (v : sm_S), (lf28_0 D) pc ls st D' M = some v → (fun v => v = R) v → sm_WJ smT smCl smSa shM f28 3 pc ls st D' M R := by
  intro pc ls st D' M v h hv
  unfold lf28_0 at h
  by_cases hp0 : pc = 17
  · subst hp0
    rw [if_pos (show (17 : Nat) = 17 from rfl)] at h
    split at h
    · skip
      have hv : v = R := hv
      subst hv
      exact w28_17  h
    · cases h
  · rw [if_neg hp0] at h
    cases h
set_option maxRecDepth 20000 in
set_option maxHeartbeats 4000000 in
theorem we28 {l1 : Int32} {D : sm_D} {M : sm_M} {R : sm_S} (h : jR_typeOf l1 D M = some R) : sm_WJ smT smCl smSa shM f28 3 0 [.ref 1, .int l1, .retAddr 0] [] D M R := by
  have e : jR_typeOf l1 D M = (sm_run shM smSa cal28 c28 false (fun a D M => some (a, D, M)) (lf28_0 D) 32 (c28.drop 0) [.ref 1, .int l1, .retAddr 0] [] D M : Option (sm_S)) := rfl
  exact sm_blk (ρ := sm_S) (gd := (fun v => v = R)) (kx := 28) (i := 0) smVM rfl (by decide) ck28 (fun a D M v e1 e2 => by cases e1; exact e2.symm) (ll28_0 D) rfl (e.symm.trans h) rfl
theorem m28 {l1 : Int32} {D : sm_D} {M : sm_M} {R : sm_S} (h : jR_typeOf l1 D M = some R) : sm_MJ smT smCl smSa shM f28 3 [.ref 1, .int l1] D M R :=
  sm_met (by decide) (Nat.le_of_ble_eq_true rfl) (List.all_eq_true.mp rfl) (we28  h)

-- jR_is
noncomputable def cal29  : sm_Cal := fun x as D M =>
  if x = 24 then (match as with
    | [.ref 1, .int a1] => (jR_isExpression a1 D M)
    | _ => none)
  else if x = 19 then (match as with
    | [.ref 1, .int a1] => (jR_isMade a1 D M)
    | _ => none)
  else if x = 28 then (match as with
    | [.ref 1, .int a1] => (jR_typeOf a1 D M)
    | _ => none)
  else none
theorem ck29  : sm_CalOk smT smCl smP smSa shM 4 cal29 := by
  intro x g as D M R hx h
  unfold cal29 at h
  by_cases hx' : x = 24
  · subst hx'
    rw [if_pos (show (24 : Nat) = 24 from rfl)] at h
    cases (show smP[24]? = some f24 from rfl).symm.trans hx
    split at h
    · skip
      exact Or.inl ⟨0, by omega, m24   h⟩
    · cases h
  · rw [if_neg hx'] at h
    by_cases hx' : x = 19
    · subst hx'
      rw [if_pos (show (19 : Nat) = 19 from rfl)] at h
      cases (show smP[19]? = some f19 from rfl).symm.trans hx
      split at h
      · skip
        exact Or.inl ⟨0, by omega, m19   h⟩
      · cases h
    · rw [if_neg hx'] at h
      by_cases hx' : x = 28
      · subst hx'
        rw [if_pos (show (28 : Nat) = 28 from rfl)] at h
        cases (show smP[28]? = some f28 from rfl).symm.trans hx
        split at h
        · skip
          exact Or.inl ⟨3, by omega, m28   h⟩
        · cases h
      · rw [if_neg hx'] at h
        cases h
set_option maxRecDepth 20000 in
set_option maxHeartbeats 4000000 in
theorem w29_21 {g0 g1 g2 g3 g4 : Value} {D : sm_D} {M : sm_M} {R : sm_S} (h : jR_is_21 D M = some R) : sm_WJ smT smCl smSa shM f29 4 21 [g0, g1, g2, g3, g4] [] D M R := by
  have e : jR_is_21 D M = (sm_run shM smSa cal29 c29 true (fun a D M => some (a, D, M)) sm_noleaf 38 (c29.drop 11) [g0, g1, g2, g3, g4] [] D M : Option (sm_S)) := rfl
  exact sm_blk (ρ := sm_S) (gd := (fun v => v = R)) (kx := 29) (i := 11) smVM rfl (by decide) ck29 (fun a D M v e1 e2 => by cases e1; exact e2.symm) (sm_noleaf_ok) rfl (e.symm.trans h) rfl
set_option maxRecDepth 20000 in
set_option maxHeartbeats 4000000 in
theorem w29_47 {l3 s0 : Int32} {g1 g2 g4 : Value} {D : sm_D} {M : sm_M} {R : sm_S} (h : jR_is_47 l3 s0 D M = some R) : sm_WJ smT smCl smSa shM f29 4 47 [.ref 1, g1, g2, .int l3, g4] [.int s0] D M R := by
  have e : jR_is_47 l3 s0 D M = (sm_run shM smSa cal29 c29 true (fun a D M => some (a, D, M)) sm_noleaf 38 (c29.drop 27) [.ref 1, g1, g2, .int l3, g4] [.int s0] D M : Option (sm_S)) := rfl
  exact sm_blk (ρ := sm_S) (gd := (fun v => v = R)) (kx := 29) (i := 27) smVM rfl (by decide) ck29 (fun a D M v e1 e2 => by cases e1; exact e2.symm) (sm_noleaf_ok) rfl (e.symm.trans h) rfl
noncomputable def lf29_0 (D : sm_D) : Nat → List Value → List Value → sm_D → sm_M → Option (sm_S) := fun pc ls st D' M =>
  if pc = 21 then (match ls, st with
    | [gl0, gl1, gl2, gl3, gl4], [] => (jR_is_21 D' M)
    | _, _ => none)
  else if pc = 47 then (match ls, st with
    | [.ref 1, gl1, gl2, .int bl3, gl4], [.int bs0] => (jR_is_47 bl3 bs0 D' M)
    | _, _ => none)
  else none
theorem ll29_0 (D : sm_D) {R : sm_S} : ∀ (pc : Nat) (ls st : List Value) (D' : sm_D) (M : sm_M) (v : sm_S), (lf29_0 D) pc ls st D' M = some v → (fun v => v = R) v → sm_WJ smT smCl smSa shM f29 4 pc ls st D' M R := by
  intro pc ls st D' M v h hv
  unfold lf29_0 at h
  by_cases hp0 : pc = 21
  · subst hp0
    rw [if_pos (show (21 : Nat) = 21 from rfl)] at h
    split at h
    · skip
      have hv : v = R := hv
      subst hv
      exact w29_21  h
    · cases h
  · rw [if_neg hp0] at h
    by_cases hp0 : pc = 47
    · subst hp0
      rw [if_pos (show (47 : Nat) = 47 from rfl)] at h
      split at h
      · skip
        have hv : v = R := hv
        subst hv
        exact w29_47  h
      · cases h
    · rw [if_neg hp0] at h
      cases h
set_option maxRecDepth 20000 in
set_option maxHeartbeats 4000000 in
theorem we29 {l1 l2 : Int32} {D : sm_D} {M : sm_M} {R : sm_S} (h : jR_is l1 l2 D M = some R) : sm_WJ smT smCl smSa shM f29 4 0 [.ref 1, .int l1, .int l2, .retAddr 0, .retAddr 0] [] D M R := by
  have e : jR_is l1 l2 D M = (sm_run shM smSa cal29 c29 true (fun a D M => some (a, D, M)) (lf29_0 D) 38 (c29.drop 0) [.ref 1, .int l1, .int l2, .retAddr 0, .retAddr 0] [] D M : Option (sm_S)) := rfl
  exact sm_blk (ρ := sm_S) (gd := (fun v => v = R)) (kx := 29) (i := 0) smVM rfl (by decide) ck29 (fun a D M v e1 e2 => by cases e1; exact e2.symm) (ll29_0 D) rfl (e.symm.trans h) rfl
theorem m29 {l1 l2 : Int32} {D : sm_D} {M : sm_M} {R : sm_S} (h : jR_is l1 l2 D M = some R) : sm_MJ smT smCl smSa shM f29 4 [.ref 1, .int l1, .int l2] D M R :=
  sm_met (by decide) (Nat.le_of_ble_eq_true rfl) (List.all_eq_true.mp rfl) (we29  h)

-- jR_isProgram
noncomputable def cal30  : sm_Cal := fun x as D M =>
  if x = 28 then (match as with
    | [.ref 1, .int a1] => (jR_typeOf a1 D M)
    | _ => none)
  else none
theorem ck30  : sm_CalOk smT smCl smP smSa shM 4 cal30 := by
  intro x g as D M R hx h
  unfold cal30 at h
  by_cases hx' : x = 28
  · subst hx'
    rw [if_pos (show (28 : Nat) = 28 from rfl)] at h
    cases (show smP[28]? = some f28 from rfl).symm.trans hx
    split at h
    · skip
      exact Or.inl ⟨3, by omega, m28   h⟩
    · cases h
  · rw [if_neg hx'] at h
    cases h
set_option maxRecDepth 20000 in
set_option maxHeartbeats 4000000 in
theorem w30_18 {l2 s0 : Int32} {g1 g3 : Value} {D : sm_D} {M : sm_M} {R : sm_S} (h : jR_isProgram_18 l2 s0 D M = some R) : sm_WJ smT smCl smSa shM f30 4 18 [.ref 1, g1, .int l2, g3] [.int s0] D M R := by
  have e : jR_isProgram_18 l2 s0 D M = (sm_run shM smSa cal30 c30 true (fun a D M => some (a, D, M)) sm_noleaf 21 (c30.drop 10) [.ref 1, g1, .int l2, g3] [.int s0] D M : Option (sm_S)) := rfl
  exact sm_blk (ρ := sm_S) (gd := (fun v => v = R)) (kx := 30) (i := 10) smVM rfl (by decide) ck30 (fun a D M v e1 e2 => by cases e1; exact e2.symm) (sm_noleaf_ok) rfl (e.symm.trans h) rfl
noncomputable def lf30_0 (D : sm_D) : Nat → List Value → List Value → sm_D → sm_M → Option (sm_S) := fun pc ls st D' M =>
  if pc = 18 then (match ls, st with
    | [.ref 1, gl1, .int bl2, gl3], [.int bs0] => (jR_isProgram_18 bl2 bs0 D' M)
    | _, _ => none)
  else none
theorem ll30_0 (D : sm_D) {R : sm_S} : ∀ (pc : Nat) (ls st : List Value) (D' : sm_D) (M : sm_M) (v : sm_S), (lf30_0 D) pc ls st D' M = some v → (fun v => v = R) v → sm_WJ smT smCl smSa shM f30 4 pc ls st D' M R := by
  intro pc ls st D' M v h hv
  unfold lf30_0 at h
  by_cases hp0 : pc = 18
  · subst hp0
    rw [if_pos (show (18 : Nat) = 18 from rfl)] at h
    split at h
    · skip
      have hv : v = R := hv
      subst hv
      exact w30_18  h
    · cases h
  · rw [if_neg hp0] at h
    cases h
set_option maxRecDepth 20000 in
set_option maxHeartbeats 4000000 in
theorem we30 {l1 : Int32} {D : sm_D} {M : sm_M} {R : sm_S} (h : jR_isProgram l1 D M = some R) : sm_WJ smT smCl smSa shM f30 4 0 [.ref 1, .int l1, .retAddr 0, .retAddr 0] [] D M R := by
  have e : jR_isProgram l1 D M = (sm_run shM smSa cal30 c30 true (fun a D M => some (a, D, M)) (lf30_0 D) 21 (c30.drop 0) [.ref 1, .int l1, .retAddr 0, .retAddr 0] [] D M : Option (sm_S)) := rfl
  exact sm_blk (ρ := sm_S) (gd := (fun v => v = R)) (kx := 30) (i := 0) smVM rfl (by decide) ck30 (fun a D M v e1 e2 => by cases e1; exact e2.symm) (ll30_0 D) rfl (e.symm.trans h) rfl
theorem m30 {l1 : Int32} {D : sm_D} {M : sm_M} {R : sm_S} (h : jR_isProgram l1 D M = some R) : sm_MJ smT smCl smSa shM f30 4 [.ref 1, .int l1] D M R :=
  sm_met (by decide) (Nat.le_of_ble_eq_true rfl) (List.all_eq_true.mp rfl) (we30  h)

-- jR_newValue
set_option maxRecDepth 20000 in
set_option maxHeartbeats 4000000 in
theorem we31 {l1 l2 l3 : Int32} {D : sm_D} {M : sm_M} {R : sm_S} (h : jR_newValue l1 l2 l3 D M = some R) : sm_WJ smT smCl smSa shM f31 0 0 [.ref 1, .int l1, .int l2, .int l3] [] D M R := by
  have e : jR_newValue l1 l2 l3 D M = (sm_run shM smSa sm_nocal c31 false (fun a D M => some (a, D, M)) sm_noleaf 34 (c31.drop 0) [.ref 1, .int l1, .int l2, .int l3] [] D M : Option (sm_S)) := rfl
  exact sm_blk (ρ := sm_S) (gd := (fun v => v = R)) (kx := 31) (i := 0) smVM rfl (by decide) (sm_nocal_ok smT smCl smP smSa shM 0) (fun a D M v e1 e2 => by cases e1; exact e2.symm) (sm_noleaf_ok) rfl (e.symm.trans h) rfl
theorem m31 {l1 l2 l3 : Int32} {D : sm_D} {M : sm_M} {R : sm_S} (h : jR_newValue l1 l2 l3 D M = some R) : sm_MJ smT smCl smSa shM f31 0 [.ref 1, .int l1, .int l2, .int l3] D M R :=
  sm_met (by decide) (Nat.le_of_ble_eq_true rfl) (List.all_eq_true.mp rfl) (we31  h)

-- jR_bind
set_option maxRecDepth 20000 in
set_option maxHeartbeats 4000000 in
theorem we32 {l1 l2 : Int32} {D : sm_D} {M : sm_M} {R : sm_S} (h : jR_bind l1 l2 D M = some R) : sm_WJ smT smCl smSa shM f32 0 0 [.ref 1, .int l1, .int l2] [] D M R := by
  have e : jR_bind l1 l2 D M = (sm_run shM smSa sm_nocal c32 false (fun a D M => some (a, D, M)) sm_noleaf 28 (c32.drop 0) [.ref 1, .int l1, .int l2] [] D M : Option (sm_S)) := rfl
  exact sm_blk (ρ := sm_S) (gd := (fun v => v = R)) (kx := 32) (i := 0) smVM rfl (by decide) (sm_nocal_ok smT smCl smP smSa shM 0) (fun a D M v e1 e2 => by cases e1; exact e2.symm) (sm_noleaf_ok) rfl (e.symm.trans h) rfl
theorem m32 {l1 l2 : Int32} {D : sm_D} {M : sm_M} {R : sm_S} (h : jR_bind l1 l2 D M = some R) : sm_MJ smT smCl smSa shM f32 0 [.ref 1, .int l1, .int l2] D M R :=
  sm_met (by decide) (Nat.le_of_ble_eq_true rfl) (List.all_eq_true.mp rfl) (we32  h)

