-- jR_step
noncomputable def cal33  : sm_Cal := fun x as D M =>
  if x = 26 then (match as with
    | [.ref 1, .int a1] => (jR_begin a1 D M)
    | _ => none)
  else none
theorem ck33  : sm_CalOk smT smCl smP smSa shM 1 cal33 := by
  intro x g as D M R hx h
  unfold cal33 at h
  by_cases hx' : x = 26
  · subst hx'
    rw [if_pos (show (26 : Nat) = 26 from rfl)] at h
    cases (show smP[26]? = some f26 from rfl).symm.trans hx
    split at h
    · skip
      exact Or.inl ⟨0, by omega, m26   h⟩
    · cases h
  · rw [if_neg hx'] at h
    cases h
set_option maxRecDepth 20000 in
set_option maxHeartbeats 4000000 in
theorem w33_19 {g0 g1 g2 : Value} {D : sm_D} {M : sm_M} {R : sm_S} (h : jR_step_19 D M = some R) : sm_WJ smT smCl smSa shM f33 1 19 [g0, g1, g2] [] D M R := by
  have e : jR_step_19 D M = (sm_run shM smSa cal33 c33 true (fun a D M => some (a, D, M)) sm_noleaf 34 (c33.drop 8) [g0, g1, g2] [] D M : Option (sm_S)) := rfl
  exact sm_blk (ρ := sm_S) (gd := (fun v => v = R)) (kx := 33) (i := 8) smVM rfl (by decide) ck33 (fun a D M v e1 e2 => by cases e1; exact e2.symm) (sm_noleaf_ok) rfl (e.symm.trans h) rfl
noncomputable def lf33_0 (D : sm_D) : Nat → List Value → List Value → sm_D → sm_M → Option (sm_S) := fun pc ls st D' M =>
  if pc = 19 then (match ls, st with
    | [gl0, gl1, gl2], [] => (jR_step_19 D' M)
    | _, _ => none)
  else none
theorem ll33_0 (D : sm_D) {R : sm_S} : ∀ (pc : Nat) (ls st : List Value) (D' : sm_D) (M : sm_M) (v : sm_S), (lf33_0 D) pc ls st D' M = some v → (fun v => v = R) v → sm_WJ smT smCl smSa shM f33 1 pc ls st D' M R := by
  intro pc ls st D' M v h hv
  unfold lf33_0 at h
  by_cases hp0 : pc = 19
  · subst hp0
    rw [if_pos (show (19 : Nat) = 19 from rfl)] at h
    split at h
    · skip
      have hv : v = R := hv
      subst hv
      exact w33_19  h
    · cases h
  · rw [if_neg hp0] at h
    cases h
set_option maxRecDepth 20000 in
set_option maxHeartbeats 4000000 in
theorem we33 {l1 l2 : Int32} {D : sm_D} {M : sm_M} {R : sm_S} (h : jR_step l1 l2 D M = some R) : sm_WJ smT smCl smSa shM f33 1 0 [.ref 1, .int l1, .int l2] [] D M R := by
  have e : jR_step l1 l2 D M = (sm_run shM smSa cal33 c33 true (fun a D M => some (a, D, M)) (lf33_0 D) 34 (c33.drop 0) [.ref 1, .int l1, .int l2] [] D M : Option (sm_S)) := rfl
  exact sm_blk (ρ := sm_S) (gd := (fun v => v = R)) (kx := 33) (i := 0) smVM rfl (by decide) ck33 (fun a D M v e1 e2 => by cases e1; exact e2.symm) (ll33_0 D) rfl (e.symm.trans h) rfl
theorem m33 {l1 l2 : Int32} {D : sm_D} {M : sm_M} {R : sm_S} (h : jR_step l1 l2 D M = some R) : sm_MJ smT smCl smSa shM f33 1 [.ref 1, .int l1, .int l2] D M R :=
  sm_met (by decide) (Nat.le_of_ble_eq_true rfl) (List.all_eq_true.mp rfl) (we33  h)

-- jR_result
set_option maxRecDepth 20000 in
set_option maxHeartbeats 4000000 in
theorem w34_25 {s0 : Int32} {g0 g1 g2 : Value} {D : sm_D} {M : sm_M} {R : sm_S} (h : jR_result_25 s0 D M = some R) : sm_WJ smT smCl smSa shM f34 0 25 [g0, g1, g2] [.int s0] D M R := by
  have e : jR_result_25 s0 D M = (sm_run shM smSa sm_nocal c34 false (fun a D M => some (a, D, M)) sm_noleaf 23 (c34.drop 17) [g0, g1, g2] [.int s0] D M : Option (sm_S)) := rfl
  exact sm_blk (ρ := sm_S) (gd := (fun v => v = R)) (kx := 34) (i := 17) smVM rfl (by decide) (sm_nocal_ok smT smCl smP smSa shM 0) (fun a D M v e1 e2 => by cases e1; exact e2.symm) (sm_noleaf_ok) rfl (e.symm.trans h) rfl
noncomputable def lf34_0 (D : sm_D) : Nat → List Value → List Value → sm_D → sm_M → Option (sm_S) := fun pc ls st D' M =>
  if pc = 25 then (match ls, st with
    | [gl0, gl1, gl2], [.int bs0] => (jR_result_25 bs0 D' M)
    | _, _ => none)
  else none
theorem ll34_0 (D : sm_D) {R : sm_S} : ∀ (pc : Nat) (ls st : List Value) (D' : sm_D) (M : sm_M) (v : sm_S), (lf34_0 D) pc ls st D' M = some v → (fun v => v = R) v → sm_WJ smT smCl smSa shM f34 0 pc ls st D' M R := by
  intro pc ls st D' M v h hv
  unfold lf34_0 at h
  by_cases hp0 : pc = 25
  · subst hp0
    rw [if_pos (show (25 : Nat) = 25 from rfl)] at h
    split at h
    · skip
      have hv : v = R := hv
      subst hv
      exact w34_25  h
    · cases h
  · rw [if_neg hp0] at h
    cases h
set_option maxRecDepth 20000 in
set_option maxHeartbeats 4000000 in
theorem we34 {l0 l1 l2 : Int32} {D : sm_D} {M : sm_M} {R : sm_S} (h : jR_result l0 l1 l2 D M = some R) : sm_WJ smT smCl smSa shM f34 0 0 [.int l0, .int l1, .int l2] [] D M R := by
  have e : jR_result l0 l1 l2 D M = (sm_run shM smSa sm_nocal c34 false (fun a D M => some (a, D, M)) (lf34_0 D) 23 (c34.drop 0) [.int l0, .int l1, .int l2] [] D M : Option (sm_S)) := rfl
  exact sm_blk (ρ := sm_S) (gd := (fun v => v = R)) (kx := 34) (i := 0) smVM rfl (by decide) (sm_nocal_ok smT smCl smP smSa shM 0) (fun a D M v e1 e2 => by cases e1; exact e2.symm) (ll34_0 D) rfl (e.symm.trans h) rfl
theorem m34 {l0 l1 l2 : Int32} {D : sm_D} {M : sm_M} {R : sm_S} (h : jR_result l0 l1 l2 D M = some R) : sm_MJ smT smCl smSa shM f34 0 [.int l0, .int l1, .int l2] D M R :=
  sm_met (by decide) (Nat.le_of_ble_eq_true rfl) (List.all_eq_true.mp rfl) (we34  h)

-- jR_boundTo
def lh35_5 (D : sm_D) (R : sm_S) (s : Int32 × Int32 × Int32 × sm_M) : Prop := ∀ (g2 : Value), sm_WJ smT smCl smSa shM f35 0 5 [.ref 1, .int (s.1), g2, .int (s.2.1), .int (s.2.2.1)] [] D (s.2.2.2) R
def gd35_5 (D : sm_D) (R : sm_S) (v : (Int32 × Int32 × Int32 × sm_M) ⊕ sm_S) : Prop := match v with
  | .inl s => lh35_5 D R s
  | .inr r => r = R
noncomputable def lf35_5 (D : sm_D) : Nat → List Value → List Value → sm_D → sm_M → Option ((Int32 × Int32 × Int32 × sm_M) ⊕ sm_S) := fun pc ls st D' M =>
  if pc = 5 then (match ls, st with
    | [.ref 1, .int bl1, gl2, .int bl3, .int bl4], [] => (sm_dq D' D (some (.inl (bl1, bl3, bl4, M))))
    | _, _ => none)
  else none
theorem ll35_5 (D : sm_D) {R : sm_S} : ∀ (pc : Nat) (ls st : List Value) (D' : sm_D) (M : sm_M) (v : (Int32 × Int32 × Int32 × sm_M) ⊕ sm_S), (lf35_5 D) pc ls st D' M = some v → (gd35_5 D R) v → sm_WJ smT smCl smSa shM f35 0 pc ls st D' M R := by
  intro pc ls st D' M v h hv
  unfold lf35_5 at h
  by_cases hp0 : pc = 5
  · subst hp0
    rw [if_pos (show (5 : Nat) = 5 from rfl)] at h
    split at h
    · skip
      replace h := sm_dq_inv h
      obtain ⟨he, h⟩ := h
      subst he
      cases h
      exact hv _
    · cases h
  · rw [if_neg hp0] at h
    cases h
set_option maxRecDepth 20000 in
set_option maxHeartbeats 4000000 in
theorem wc35_5 (D : sm_D) {l1 l3 l4 : Int32} {g2 : Value} {M : sm_M} {R : sm_S} {v : (Int32 × Int32 × Int32 × sm_M) ⊕ sm_S} (h : jR_boundTo_5_c l1 l3 l4 D M = some v) (hv : (gd35_5 D R) v) : sm_WJ smT smCl smSa shM f35 0 5 [.ref 1, .int l1, g2, .int l3, .int l4] [] D M R := by
  have e : jR_boundTo_5_c l1 l3 l4 D M = (sm_run shM smSa sm_nocal c35 false (fun a D M => some (.inr (a, D, M))) (lf35_5 D) 27 (c35.drop 4) [.ref 1, .int l1, g2, .int l3, .int l4] [] D M : Option ((Int32 × Int32 × Int32 × sm_M) ⊕ sm_S)) := rfl
  exact sm_blk (ρ := (Int32 × Int32 × Int32 × sm_M) ⊕ sm_S) (gd := (gd35_5 D R)) (kx := 35) (i := 4) smVM rfl (by decide) (sm_nocal_ok smT smCl smP smSa shM 0) (fun a D M v e1 e2 => by cases e1; exact e2.symm) (ll35_5 D) rfl (e.symm.trans h) hv
theorem w35_5 {l1 l3 l4 : Int32} {g2 : Value} {D : sm_D} {M : sm_M} {R : sm_S} (h : jR_boundTo_5 l1 l3 l4 D M = some R) : sm_WJ smT smCl smSa shM f35 0 5 [.ref 1, .int l1, g2, .int l3, .int l4] [] D M R := by
  have hh : lh35_5 D R (l1, l3, l4, M) := by
    refine sm_lp_ind (b := jR_boundTo_5_b D) (r := R) (lh35_5 D R) ?_ h
    intro s v hb h1 h2
    obtain ⟨z0, z1, z2, M1⟩ := s
    have hv : gd35_5 D R v := by
      cases v with
      | inl s' => exact h1 s' rfl
      | inr r => exact h2 r rfl
    intro g2
    exact wc35_5 D hb hv
  exact hh _
noncomputable def lf35_0 (D : sm_D) : Nat → List Value → List Value → sm_D → sm_M → Option (sm_S) := fun pc ls st D' M =>
  if pc = 5 then (match ls, st with
    | [.ref 1, .int bl1, gl2, .int bl3, .int bl4], [] => (jR_boundTo_5 bl1 bl3 bl4 D' M)
    | _, _ => none)
  else none
theorem ll35_0 (D : sm_D) {R : sm_S} : ∀ (pc : Nat) (ls st : List Value) (D' : sm_D) (M : sm_M) (v : sm_S), (lf35_0 D) pc ls st D' M = some v → (fun v => v = R) v → sm_WJ smT smCl smSa shM f35 0 pc ls st D' M R := by
  intro pc ls st D' M v h hv
  unfold lf35_0 at h
  by_cases hp0 : pc = 5
  · subst hp0
    rw [if_pos (show (5 : Nat) = 5 from rfl)] at h
    split at h
    · skip
      have hv : v = R := hv
      subst hv
      exact w35_5  h
    · cases h
  · rw [if_neg hp0] at h
    cases h
set_option maxRecDepth 20000 in
set_option maxHeartbeats 4000000 in
theorem we35 {l1 l2 : Int32} {D : sm_D} {M : sm_M} {R : sm_S} (h : jR_boundTo l1 l2 D M = some R) : sm_WJ smT smCl smSa shM f35 0 0 [.ref 1, .int l1, .int l2, .retAddr 0, .retAddr 0] [] D M R := by
  have e : jR_boundTo l1 l2 D M = (sm_run shM smSa sm_nocal c35 false (fun a D M => some (a, D, M)) (lf35_0 D) 27 (c35.drop 0) [.ref 1, .int l1, .int l2, .retAddr 0, .retAddr 0] [] D M : Option (sm_S)) := rfl
  exact sm_blk (ρ := sm_S) (gd := (fun v => v = R)) (kx := 35) (i := 0) smVM rfl (by decide) (sm_nocal_ok smT smCl smP smSa shM 0) (fun a D M v e1 e2 => by cases e1; exact e2.symm) (ll35_0 D) rfl (e.symm.trans h) rfl
theorem m35 {l1 l2 : Int32} {D : sm_D} {M : sm_M} {R : sm_S} (h : jR_boundTo l1 l2 D M = some R) : sm_MJ smT smCl smSa shM f35 0 [.ref 1, .int l1, .int l2] D M R :=
  sm_met (by decide) (Nat.le_of_ble_eq_true rfl) (List.all_eq_true.mp rfl) (we35  h)

-- jR_partNext
noncomputable def cal36  : sm_Cal := fun x as D M =>
  if x = 23 then (match as with
    | [.int a0] => (jR_partsOf a0 D M)
    | _ => none)
  else none
theorem ck36  : sm_CalOk smT smCl smP smSa shM 1 cal36 := by
  intro x g as D M R hx h
  unfold cal36 at h
  by_cases hx' : x = 23
  · subst hx'
    rw [if_pos (show (23 : Nat) = 23 from rfl)] at h
    cases (show smP[23]? = some f23 from rfl).symm.trans hx
    split at h
    · skip
      exact Or.inl ⟨0, by omega, m23   h⟩
    · cases h
  · rw [if_neg hx'] at h
    cases h
set_option maxRecDepth 20000 in
set_option maxHeartbeats 4000000 in
theorem w36_14 {g0 g1 g2 g3 : Value} {D : sm_D} {M : sm_M} {R : sm_S} (h : jR_partNext_14 D M = some R) : sm_WJ smT smCl smSa shM f36 1 14 [g0, g1, g2, g3] [] D M R := by
  have e : jR_partNext_14 D M = (sm_run shM smSa cal36 c36 false (fun a D M => some (a, D, M)) sm_noleaf 52 (c36.drop 7) [g0, g1, g2, g3] [] D M : Option (sm_S)) := rfl
  exact sm_blk (ρ := sm_S) (gd := (fun v => v = R)) (kx := 36) (i := 7) smVM rfl (by decide) ck36 (fun a D M v e1 e2 => by cases e1; exact e2.symm) (sm_noleaf_ok) rfl (e.symm.trans h) rfl
set_option maxRecDepth 20000 in
set_option maxHeartbeats 4000000 in
theorem w36_61 {s0 : Int32} {g0 g1 g2 g3 : Value} {D : sm_D} {M : sm_M} {R : sm_S} (h : jR_partNext_61 s0 D M = some R) : sm_WJ smT smCl smSa shM f36 1 61 [g0, g1, g2, g3] [.int s0] D M R := by
  have e : jR_partNext_61 s0 D M = (sm_run shM smSa cal36 c36 false (fun a D M => some (a, D, M)) sm_noleaf 52 (c36.drop 34) [g0, g1, g2, g3] [.int s0] D M : Option (sm_S)) := rfl
  exact sm_blk (ρ := sm_S) (gd := (fun v => v = R)) (kx := 36) (i := 34) smVM rfl (by decide) ck36 (fun a D M v e1 e2 => by cases e1; exact e2.symm) (sm_noleaf_ok) rfl (e.symm.trans h) rfl
set_option maxRecDepth 20000 in
set_option maxHeartbeats 4000000 in
theorem w36_81 {s0 : Int32} {g0 g1 g2 g3 : Value} {D : sm_D} {M : sm_M} {R : sm_S} (h : jR_partNext_81 s0 D M = some R) : sm_WJ smT smCl smSa shM f36 1 81 [g0, g1, g2, g3] [.int s0] D M R := by
  have e : jR_partNext_81 s0 D M = (sm_run shM smSa cal36 c36 false (fun a D M => some (a, D, M)) sm_noleaf 52 (c36.drop 46) [g0, g1, g2, g3] [.int s0] D M : Option (sm_S)) := rfl
  exact sm_blk (ρ := sm_S) (gd := (fun v => v = R)) (kx := 36) (i := 46) smVM rfl (by decide) ck36 (fun a D M v e1 e2 => by cases e1; exact e2.symm) (sm_noleaf_ok) rfl (e.symm.trans h) rfl
noncomputable def lf36_62 (D : sm_D) : Nat → List Value → List Value → sm_D → sm_M → Option (sm_S) := fun pc ls st D' M =>
  if pc = 81 then (match ls, st with
    | [gl0, gl1, gl2, gl3], [.int bs0] => (jR_partNext_81 bs0 D' M)
    | _, _ => none)
  else none
theorem ll36_62 (D : sm_D) {R : sm_S} : ∀ (pc : Nat) (ls st : List Value) (D' : sm_D) (M : sm_M) (v : sm_S), (lf36_62 D) pc ls st D' M = some v → (fun v => v = R) v → sm_WJ smT smCl smSa shM f36 1 pc ls st D' M R := by
  intro pc ls st D' M v h hv
  unfold lf36_62 at h
  by_cases hp0 : pc = 81
  · subst hp0
    rw [if_pos (show (81 : Nat) = 81 from rfl)] at h
    split at h
    · skip
      have hv : v = R := hv
      subst hv
      exact w36_81  h
    · cases h
  · rw [if_neg hp0] at h
    cases h
set_option maxRecDepth 20000 in
set_option maxHeartbeats 4000000 in
theorem w36_62 {l2 l3 : Int32} {g1 : Value} {D : sm_D} {M : sm_M} {R : sm_S} (h : jR_partNext_62 l2 l3 D M = some R) : sm_WJ smT smCl smSa shM f36 1 62 [.ref 1, g1, .int l2, .int l3] [] D M R := by
  have e : jR_partNext_62 l2 l3 D M = (sm_run shM smSa cal36 c36 false (fun a D M => some (a, D, M)) (lf36_62 D) 52 (c36.drop 35) [.ref 1, g1, .int l2, .int l3] [] D M : Option (sm_S)) := rfl
  exact sm_blk (ρ := sm_S) (gd := (fun v => v = R)) (kx := 36) (i := 35) smVM rfl (by decide) ck36 (fun a D M v e1 e2 => by cases e1; exact e2.symm) (ll36_62 D) rfl (e.symm.trans h) rfl
noncomputable def lf36_0 (D : sm_D) : Nat → List Value → List Value → sm_D → sm_M → Option (sm_S) := fun pc ls st D' M =>
  if pc = 14 then (match ls, st with
    | [gl0, gl1, gl2, gl3], [] => (jR_partNext_14 D' M)
    | _, _ => none)
  else if pc = 61 then (match ls, st with
    | [gl0, gl1, gl2, gl3], [.int bs0] => (jR_partNext_61 bs0 D' M)
    | _, _ => none)
  else if pc = 62 then (match ls, st with
    | [.ref 1, gl1, .int bl2, .int bl3], [] => (jR_partNext_62 bl2 bl3 D' M)
    | _, _ => none)
  else none
theorem ll36_0 (D : sm_D) {R : sm_S} : ∀ (pc : Nat) (ls st : List Value) (D' : sm_D) (M : sm_M) (v : sm_S), (lf36_0 D) pc ls st D' M = some v → (fun v => v = R) v → sm_WJ smT smCl smSa shM f36 1 pc ls st D' M R := by
  intro pc ls st D' M v h hv
  unfold lf36_0 at h
  by_cases hp0 : pc = 14
  · subst hp0
    rw [if_pos (show (14 : Nat) = 14 from rfl)] at h
    split at h
    · skip
      have hv : v = R := hv
      subst hv
      exact w36_14  h
    · cases h
  · rw [if_neg hp0] at h
    by_cases hp0 : pc = 61
    · subst hp0
      rw [if_pos (show (61 : Nat) = 61 from rfl)] at h
      split at h
      · skip
        have hv : v = R := hv
        subst hv
        exact w36_61  h
      · cases h
    · rw [if_neg hp0] at h
      by_cases hp0 : pc = 62
      · subst hp0
        rw [if_pos (show (62 : Nat) = 62 from rfl)] at h
        split at h
        · skip
          have hv : v = R := hv
          subst hv
          exact w36_62  h
        · cases h
      · rw [if_neg hp0] at h
        cases h
set_option maxRecDepth 20000 in
set_option maxHeartbeats 4000000 in
theorem we36 {l1 l2 l3 : Int32} {D : sm_D} {M : sm_M} {R : sm_S} (h : jR_partNext l1 l2 l3 D M = some R) : sm_WJ smT smCl smSa shM f36 1 0 [.ref 1, .int l1, .int l2, .int l3] [] D M R := by
  have e : jR_partNext l1 l2 l3 D M = (sm_run shM smSa cal36 c36 false (fun a D M => some (a, D, M)) (lf36_0 D) 52 (c36.drop 0) [.ref 1, .int l1, .int l2, .int l3] [] D M : Option (sm_S)) := rfl
  exact sm_blk (ρ := sm_S) (gd := (fun v => v = R)) (kx := 36) (i := 0) smVM rfl (by decide) ck36 (fun a D M v e1 e2 => by cases e1; exact e2.symm) (ll36_0 D) rfl (e.symm.trans h) rfl
theorem m36 {l1 l2 l3 : Int32} {D : sm_D} {M : sm_M} {R : sm_S} (h : jR_partNext l1 l2 l3 D M = some R) : sm_MJ smT smCl smSa shM f36 1 [.ref 1, .int l1, .int l2, .int l3] D M R :=
  sm_met (by decide) (Nat.le_of_ble_eq_true rfl) (List.all_eq_true.mp rfl) (we36  h)

-- jR_evaluateNext
noncomputable def cal37  : sm_Cal := fun x as D M =>
  if x = 36 then (match as with
    | [.ref 1, .int a1, .int a2, .int a3] => (jR_partNext a1 a2 a3 D M)
    | _ => none)
  else if x = 33 then (match as with
    | [.ref 1, .int a1, .int a2] => (jR_step a1 a2 D M)
    | _ => none)
  else if x = 32 then (match as with
    | [.ref 1, .int a1, .int a2] => (jR_bind a1 a2 D M)
    | _ => none)
  else if x = 31 then (match as with
    | [.ref 1, .int a1, .int a2, .int a3] => (jR_newValue a1 a2 a3 D M)
    | _ => none)
  else if x = 35 then (match as with
    | [.ref 1, .int a1, .int a2] => (jR_boundTo a1 a2 D M)
    | _ => none)
  else if x = 34 then (match as with
    | [.int a0, .int a1, .int a2] => (jR_result a0 a1 a2 D M)
    | _ => none)
  else none
theorem ck37  : sm_CalOk smT smCl smP smSa shM 2 cal37 := by
  intro x g as D M R hx h
  unfold cal37 at h
  by_cases hx' : x = 36
  · subst hx'
    rw [if_pos (show (36 : Nat) = 36 from rfl)] at h
    cases (show smP[36]? = some f36 from rfl).symm.trans hx
    split at h
    · skip
      exact Or.inl ⟨1, by omega, m36   h⟩
    · cases h
  · rw [if_neg hx'] at h
    by_cases hx' : x = 33
    · subst hx'
      rw [if_pos (show (33 : Nat) = 33 from rfl)] at h
      cases (show smP[33]? = some f33 from rfl).symm.trans hx
      split at h
      · skip
        exact Or.inl ⟨1, by omega, m33   h⟩
      · cases h
    · rw [if_neg hx'] at h
      by_cases hx' : x = 32
      · subst hx'
        rw [if_pos (show (32 : Nat) = 32 from rfl)] at h
        cases (show smP[32]? = some f32 from rfl).symm.trans hx
        split at h
        · skip
          exact Or.inl ⟨0, by omega, m32   h⟩
        · cases h
      · rw [if_neg hx'] at h
        by_cases hx' : x = 31
        · subst hx'
          rw [if_pos (show (31 : Nat) = 31 from rfl)] at h
          cases (show smP[31]? = some f31 from rfl).symm.trans hx
          split at h
          · skip
            exact Or.inl ⟨0, by omega, m31   h⟩
          · cases h
        · rw [if_neg hx'] at h
          by_cases hx' : x = 35
          · subst hx'
            rw [if_pos (show (35 : Nat) = 35 from rfl)] at h
            cases (show smP[35]? = some f35 from rfl).symm.trans hx
            split at h
            · skip
              exact Or.inl ⟨0, by omega, m35   h⟩
            · cases h
          · rw [if_neg hx'] at h
            by_cases hx' : x = 34
            · subst hx'
              rw [if_pos (show (34 : Nat) = 34 from rfl)] at h
              cases (show smP[34]? = some f34 from rfl).symm.trans hx
              split at h
              · skip
                exact Or.inl ⟨0, by omega, m34   h⟩
              · cases h
            · rw [if_neg hx'] at h
              cases h
set_option maxRecDepth 20000 in
set_option maxHeartbeats 4000000 in
theorem w37_364 {g0 g1 g2 g3 g4 g5 g6 g7 : Value} {D : sm_D} {M : sm_M} {R : sm_S} (h : jR_evaluateNext_364 D M = some R) : sm_WJ smT smCl smSa shM f37 2 364 [g0, g1, g2, g3, g4, g5, g6, g7] [] D M R := by
  have e : jR_evaluateNext_364 D M = (sm_run shM smSa cal37 c37 true (fun a D M => some (a, D, M)) sm_noleaf 183 (c37.drop 176) [g0, g1, g2, g3, g4, g5, g6, g7] [] D M : Option (sm_S)) := rfl
  exact sm_blk (ρ := sm_S) (gd := (fun v => v = R)) (kx := 37) (i := 176) smVM rfl (by decide) ck37 (fun a D M v e1 e2 => by cases e1; exact e2.symm) (sm_noleaf_ok) rfl (e.symm.trans h) rfl
noncomputable def lf37_257 (D : sm_D) : Nat → List Value → List Value → sm_D → sm_M → Option (sm_S) := fun pc ls st D' M =>
  if pc = 364 then (match ls, st with
    | [gl0, gl1, gl2, gl3, gl4, gl5, gl6, gl7], [] => (jR_evaluateNext_364 D' M)
    | _, _ => none)
  else none
theorem ll37_257 (D : sm_D) {R : sm_S} : ∀ (pc : Nat) (ls st : List Value) (D' : sm_D) (M : sm_M) (v : sm_S), (lf37_257 D) pc ls st D' M = some v → (fun v => v = R) v → sm_WJ smT smCl smSa shM f37 2 pc ls st D' M R := by
  intro pc ls st D' M v h hv
  unfold lf37_257 at h
  by_cases hp0 : pc = 364
  · subst hp0
    rw [if_pos (show (364 : Nat) = 364 from rfl)] at h
    split at h
    · skip
      have hv : v = R := hv
      subst hv
      exact w37_364  h
    · cases h
  · rw [if_neg hp0] at h
    cases h
set_option maxRecDepth 20000 in
set_option maxHeartbeats 4000000 in
theorem w37_257 {l1 l4 : Int32} {g2 g3 g5 g6 g7 : Value} {D : sm_D} {M : sm_M} {R : sm_S} (h : jR_evaluateNext_257 l1 l4 D M = some R) : sm_WJ smT smCl smSa shM f37 2 257 [.ref 1, .int l1, g2, g3, .int l4, g5, g6, g7] [] D M R := by
  have e : jR_evaluateNext_257 l1 l4 D M = (sm_run shM smSa cal37 c37 true (fun a D M => some (a, D, M)) (lf37_257 D) 183 (c37.drop 119) [.ref 1, .int l1, g2, g3, .int l4, g5, g6, g7] [] D M : Option (sm_S)) := rfl
  exact sm_blk (ρ := sm_S) (gd := (fun v => v = R)) (kx := 37) (i := 119) smVM rfl (by decide) ck37 (fun a D M v e1 e2 => by cases e1; exact e2.symm) (ll37_257 D) rfl (e.symm.trans h) rfl
noncomputable def lf37_152 (D : sm_D) : Nat → List Value → List Value → sm_D → sm_M → Option (sm_S) := fun pc ls st D' M =>
  if pc = 257 then (match ls, st with
    | [.ref 1, .int bl1, gl2, gl3, .int bl4, gl5, gl6, gl7], [] => (jR_evaluateNext_257 bl1 bl4 D' M)
    | _, _ => none)
  else if pc = 364 then (match ls, st with
    | [gl0, gl1, gl2, gl3, gl4, gl5, gl6, gl7], [] => (jR_evaluateNext_364 D' M)
    | _, _ => none)
  else none
theorem ll37_152 (D : sm_D) {R : sm_S} : ∀ (pc : Nat) (ls st : List Value) (D' : sm_D) (M : sm_M) (v : sm_S), (lf37_152 D) pc ls st D' M = some v → (fun v => v = R) v → sm_WJ smT smCl smSa shM f37 2 pc ls st D' M R := by
  intro pc ls st D' M v h hv
  unfold lf37_152 at h
  by_cases hp0 : pc = 257
  · subst hp0
    rw [if_pos (show (257 : Nat) = 257 from rfl)] at h
    split at h
    · skip
      have hv : v = R := hv
      subst hv
      exact w37_257  h
    · cases h
  · rw [if_neg hp0] at h
    by_cases hp0 : pc = 364
    · subst hp0
      rw [if_pos (show (364 : Nat) = 364 from rfl)] at h
      split at h
      · skip
        have hv : v = R := hv
        subst hv
        exact w37_364  h
      · cases h
    · rw [if_neg hp0] at h
      cases h
set_option maxRecDepth 20000 in
set_option maxHeartbeats 4000000 in
theorem w37_152 {l1 l2 l4 l5 : Int32} {g3 g6 g7 : Value} {D : sm_D} {M : sm_M} {R : sm_S} (h : jR_evaluateNext_152 l1 l2 l4 l5 D M = some R) : sm_WJ smT smCl smSa shM f37 2 152 [.ref 1, .int l1, .int l2, g3, .int l4, .int l5, g6, g7] [] D M R := by
  have e : jR_evaluateNext_152 l1 l2 l4 l5 D M = (sm_run shM smSa cal37 c37 true (fun a D M => some (a, D, M)) (lf37_152 D) 183 (c37.drop 93) [.ref 1, .int l1, .int l2, g3, .int l4, .int l5, g6, g7] [] D M : Option (sm_S)) := rfl
  exact sm_blk (ρ := sm_S) (gd := (fun v => v = R)) (kx := 37) (i := 93) smVM rfl (by decide) ck37 (fun a D M v e1 e2 => by cases e1; exact e2.symm) (ll37_152 D) rfl (e.symm.trans h) rfl
noncomputable def lf37_72 (D : sm_D) : Nat → List Value → List Value → sm_D → sm_M → Option (sm_S) := fun pc ls st D' M =>
  if pc = 152 then (match ls, st with
    | [.ref 1, .int bl1, .int bl2, gl3, .int bl4, .int bl5, gl6, gl7], [] => (jR_evaluateNext_152 bl1 bl2 bl4 bl5 D' M)
    | _, _ => none)
  else none
theorem ll37_72 (D : sm_D) {R : sm_S} : ∀ (pc : Nat) (ls st : List Value) (D' : sm_D) (M : sm_M) (v : sm_S), (lf37_72 D) pc ls st D' M = some v → (fun v => v = R) v → sm_WJ smT smCl smSa shM f37 2 pc ls st D' M R := by
  intro pc ls st D' M v h hv
  unfold lf37_72 at h
  by_cases hp0 : pc = 152
  · subst hp0
    rw [if_pos (show (152 : Nat) = 152 from rfl)] at h
    split at h
    · skip
      have hv : v = R := hv
      subst hv
      exact w37_152  h
    · cases h
  · rw [if_neg hp0] at h
    cases h
set_option maxRecDepth 20000 in
set_option maxHeartbeats 4000000 in
theorem w37_72 {l1 l2 l3 l4 l5 l6 : Int32} {g7 : Value} {D : sm_D} {M : sm_M} {R : sm_S} (h : jR_evaluateNext_72 l1 l2 l3 l4 l5 l6 D M = some R) : sm_WJ smT smCl smSa shM f37 2 72 [.ref 1, .int l1, .int l2, .int l3, .int l4, .int l5, .int l6, g7] [] D M R := by
  have e : jR_evaluateNext_72 l1 l2 l3 l4 l5 l6 D M = (sm_run shM smSa cal37 c37 true (fun a D M => some (a, D, M)) (lf37_72 D) 183 (c37.drop 48) [.ref 1, .int l1, .int l2, .int l3, .int l4, .int l5, .int l6, g7] [] D M : Option (sm_S)) := rfl
  exact sm_blk (ρ := sm_S) (gd := (fun v => v = R)) (kx := 37) (i := 48) smVM rfl (by decide) ck37 (fun a D M v e1 e2 => by cases e1; exact e2.symm) (ll37_72 D) rfl (e.symm.trans h) rfl
noncomputable def lf37_0 (D : sm_D) : Nat → List Value → List Value → sm_D → sm_M → Option (sm_S) := fun pc ls st D' M =>
  if pc = 72 then (match ls, st with
    | [.ref 1, .int bl1, .int bl2, .int bl3, .int bl4, .int bl5, .int bl6, gl7], [] => (jR_evaluateNext_72 bl1 bl2 bl3 bl4 bl5 bl6 D' M)
    | _, _ => none)
  else none
theorem ll37_0 (D : sm_D) {R : sm_S} : ∀ (pc : Nat) (ls st : List Value) (D' : sm_D) (M : sm_M) (v : sm_S), (lf37_0 D) pc ls st D' M = some v → (fun v => v = R) v → sm_WJ smT smCl smSa shM f37 2 pc ls st D' M R := by
  intro pc ls st D' M v h hv
  unfold lf37_0 at h
  by_cases hp0 : pc = 72
  · subst hp0
    rw [if_pos (show (72 : Nat) = 72 from rfl)] at h
    split at h
    · skip
      have hv : v = R := hv
      subst hv
      exact w37_72  h
    · cases h
  · rw [if_neg hp0] at h
    cases h
set_option maxRecDepth 20000 in
set_option maxHeartbeats 4000000 in
theorem we37 {D : sm_D} {M : sm_M} {R : sm_S} (h : jR_evaluateNext D M = some R) : sm_WJ smT smCl smSa shM f37 2 0 [.ref 1, .retAddr 0, .retAddr 0, .retAddr 0, .retAddr 0, .retAddr 0, .retAddr 0, .retAddr 0] [] D M R := by
  have e : jR_evaluateNext D M = (sm_run shM smSa cal37 c37 true (fun a D M => some (a, D, M)) (lf37_0 D) 183 (c37.drop 0) [.ref 1, .retAddr 0, .retAddr 0, .retAddr 0, .retAddr 0, .retAddr 0, .retAddr 0, .retAddr 0] [] D M : Option (sm_S)) := rfl
  exact sm_blk (ρ := sm_S) (gd := (fun v => v = R)) (kx := 37) (i := 0) smVM rfl (by decide) ck37 (fun a D M v e1 e2 => by cases e1; exact e2.symm) (ll37_0 D) rfl (e.symm.trans h) rfl
theorem m37 {D : sm_D} {M : sm_M} {R : sm_S} (h : jR_evaluateNext D M = some R) : sm_MJ smT smCl smSa shM f37 2 [.ref 1] D M R :=
  sm_met (by decide) (Nat.le_of_ble_eq_true rfl) (List.all_eq_true.mp rfl) (we37  h)

-- jR_evaluate
noncomputable def cal38  : sm_Cal := fun x as D M =>
  if x = 24 then (match as with
    | [.ref 1, .int a1] => (jR_isExpression a1 D M)
    | _ => none)
  else if x = 16 then (match as with
    | [.ref 1, .int a1] => (jR_refuse a1 D M)
    | _ => none)
  else if x = 30 then (match as with
    | [.ref 1, .int a1] => (jR_isProgram a1 D M)
    | _ => none)
  else if x = 33 then (match as with
    | [.ref 1, .int a1, .int a2] => (jR_step a1 a2 D M)
    | _ => none)
  else if x = 37 then (match as with
    | [.ref 1] => (jR_evaluateNext D M)
    | _ => none)
  else none
theorem ck38  : sm_CalOk smT smCl smP smSa shM 5 cal38 := by
  intro x g as D M R hx h
  unfold cal38 at h
  by_cases hx' : x = 24
  · subst hx'
    rw [if_pos (show (24 : Nat) = 24 from rfl)] at h
    cases (show smP[24]? = some f24 from rfl).symm.trans hx
    split at h
    · skip
      exact Or.inl ⟨0, by omega, m24   h⟩
    · cases h
  · rw [if_neg hx'] at h
    by_cases hx' : x = 16
    · subst hx'
      rw [if_pos (show (16 : Nat) = 16 from rfl)] at h
      cases (show smP[16]? = some f16 from rfl).symm.trans hx
      split at h
      · skip
        exact Or.inl ⟨0, by omega, m16   h⟩
      · cases h
    · rw [if_neg hx'] at h
      by_cases hx' : x = 30
      · subst hx'
        rw [if_pos (show (30 : Nat) = 30 from rfl)] at h
        cases (show smP[30]? = some f30 from rfl).symm.trans hx
        split at h
        · skip
          exact Or.inl ⟨4, by omega, m30   h⟩
        · cases h
      · rw [if_neg hx'] at h
        by_cases hx' : x = 33
        · subst hx'
          rw [if_pos (show (33 : Nat) = 33 from rfl)] at h
          cases (show smP[33]? = some f33 from rfl).symm.trans hx
          split at h
          · skip
            exact Or.inl ⟨1, by omega, m33   h⟩
          · cases h
        · rw [if_neg hx'] at h
          by_cases hx' : x = 37
          · subst hx'
            rw [if_pos (show (37 : Nat) = 37 from rfl)] at h
            cases (show smP[37]? = some f37 from rfl).symm.trans hx
            split at h
            · skip
              exact Or.inl ⟨2, by omega, m37   h⟩
            · cases h
          · rw [if_neg hx'] at h
            cases h
set_option maxRecDepth 20000 in
set_option maxHeartbeats 4000000 in
theorem w38_100 {s0 : Int32} {g0 g1 g2 : Value} {D : sm_D} {M : sm_M} {R : sm_S} (h : jR_evaluate_100 s0 D M = some R) : sm_WJ smT smCl smSa shM f38 5 100 [g0, g1, g2] [.int s0] D M R := by
  have e : jR_evaluate_100 s0 D M = (sm_run shM smSa cal38 c38 false (fun a D M => some (a, D, M)) sm_noleaf 62 (c38.drop 56) [g0, g1, g2] [.int s0] D M : Option (sm_S)) := rfl
  exact sm_blk (ρ := sm_S) (gd := (fun v => v = R)) (kx := 38) (i := 56) smVM rfl (by decide) ck38 (fun a D M v e1 e2 => by cases e1; exact e2.symm) (sm_noleaf_ok) rfl (e.symm.trans h) rfl
noncomputable def lf38_79 (D : sm_D) : Nat → List Value → List Value → sm_D → sm_M → Option (sm_S) := fun pc ls st D' M =>
  if pc = 100 then (match ls, st with
    | [gl0, gl1, gl2], [.int bs0] => (jR_evaluate_100 bs0 D' M)
    | _, _ => none)
  else none
theorem ll38_79 (D : sm_D) {R : sm_S} : ∀ (pc : Nat) (ls st : List Value) (D' : sm_D) (M : sm_M) (v : sm_S), (lf38_79 D) pc ls st D' M = some v → (fun v => v = R) v → sm_WJ smT smCl smSa shM f38 5 pc ls st D' M R := by
  intro pc ls st D' M v h hv
  unfold lf38_79 at h
  by_cases hp0 : pc = 100
  · subst hp0
    rw [if_pos (show (100 : Nat) = 100 from rfl)] at h
    split at h
    · skip
      have hv : v = R := hv
      subst hv
      exact w38_100  h
    · cases h
  · rw [if_neg hp0] at h
    cases h
set_option maxRecDepth 20000 in
set_option maxHeartbeats 4000000 in
theorem w38_79 {l2 : Int32} {g1 : Value} {D : sm_D} {M : sm_M} {R : sm_S} (h : jR_evaluate_79 l2 D M = some R) : sm_WJ smT smCl smSa shM f38 5 79 [.ref 1, g1, .int l2] [] D M R := by
  have e : jR_evaluate_79 l2 D M = (sm_run shM smSa cal38 c38 false (fun a D M => some (a, D, M)) (lf38_79 D) 62 (c38.drop 45) [.ref 1, g1, .int l2] [] D M : Option (sm_S)) := rfl
  exact sm_blk (ρ := sm_S) (gd := (fun v => v = R)) (kx := 38) (i := 45) smVM rfl (by decide) ck38 (fun a D M v e1 e2 => by cases e1; exact e2.symm) (ll38_79 D) rfl (e.symm.trans h) rfl
def lh38_60 (D : sm_D) (R : sm_S) (s : Int32 × sm_M) : Prop := ∀ (g1 : Value), sm_WJ smT smCl smSa shM f38 5 60 [.ref 1, g1, .int (s.1)] [] D (s.2) R
def gd38_60 (D : sm_D) (R : sm_S) (v : (Int32 × sm_M) ⊕ sm_S) : Prop := match v with
  | .inl s => lh38_60 D R s
  | .inr r => r = R
noncomputable def lf38_60 (D : sm_D) : Nat → List Value → List Value → sm_D → sm_M → Option ((Int32 × sm_M) ⊕ sm_S) := fun pc ls st D' M =>
  if pc = 60 then (match ls, st with
    | [.ref 1, gl1, .int bl2], [] => (sm_dq D' D (some (.inl (bl2, M))))
    | _, _ => none)
  else if pc = 79 then (match ls, st with
    | [.ref 1, gl1, .int bl2], [] => (sm_inr (jR_evaluate_79 bl2 D' M))
    | _, _ => none)
  else none
theorem ll38_60 (D : sm_D) {R : sm_S} : ∀ (pc : Nat) (ls st : List Value) (D' : sm_D) (M : sm_M) (v : (Int32 × sm_M) ⊕ sm_S), (lf38_60 D) pc ls st D' M = some v → (gd38_60 D R) v → sm_WJ smT smCl smSa shM f38 5 pc ls st D' M R := by
  intro pc ls st D' M v h hv
  unfold lf38_60 at h
  by_cases hp0 : pc = 60
  · subst hp0
    rw [if_pos (show (60 : Nat) = 60 from rfl)] at h
    split at h
    · skip
      replace h := sm_dq_inv h
      obtain ⟨he, h⟩ := h
      subst he
      cases h
      exact hv _
    · cases h
  · rw [if_neg hp0] at h
    by_cases hp0 : pc = 79
    · subst hp0
      rw [if_pos (show (79 : Nat) = 79 from rfl)] at h
      split at h
      · skip
        replace h := sm_inr_inv h
        obtain ⟨r, h, he⟩ := h
        subst he
        have hv : r = R := hv
        subst hv
        exact w38_79  h
      · cases h
    · rw [if_neg hp0] at h
      cases h
set_option maxRecDepth 20000 in
set_option maxHeartbeats 4000000 in
theorem wc38_60 (D : sm_D) {l2 : Int32} {g1 : Value} {M : sm_M} {R : sm_S} {v : (Int32 × sm_M) ⊕ sm_S} (h : jR_evaluate_60_c l2 D M = some v) (hv : (gd38_60 D R) v) : sm_WJ smT smCl smSa shM f38 5 60 [.ref 1, g1, .int l2] [] D M R := by
  have e : jR_evaluate_60_c l2 D M = (sm_run shM smSa cal38 c38 false (fun a D M => some (.inr (a, D, M))) (lf38_60 D) 62 (c38.drop 36) [.ref 1, g1, .int l2] [] D M : Option ((Int32 × sm_M) ⊕ sm_S)) := rfl
  exact sm_blk (ρ := (Int32 × sm_M) ⊕ sm_S) (gd := (gd38_60 D R)) (kx := 38) (i := 36) smVM rfl (by decide) ck38 (fun a D M v e1 e2 => by cases e1; exact e2.symm) (ll38_60 D) rfl (e.symm.trans h) hv
theorem w38_60 {l2 : Int32} {g1 : Value} {D : sm_D} {M : sm_M} {R : sm_S} (h : jR_evaluate_60 l2 D M = some R) : sm_WJ smT smCl smSa shM f38 5 60 [.ref 1, g1, .int l2] [] D M R := by
  have hh : lh38_60 D R (l2, M) := by
    refine sm_lp_ind (b := jR_evaluate_60_b D) (r := R) (lh38_60 D R) ?_ h
    intro s v hb h1 h2
    obtain ⟨z0, M1⟩ := s
    have hv : gd38_60 D R v := by
      cases v with
      | inl s' => exact h1 s' rfl
      | inr r => exact h2 r rfl
    intro g1
    exact wc38_60 D hb hv
  exact hh _
noncomputable def lf38_0 (D : sm_D) : Nat → List Value → List Value → sm_D → sm_M → Option (sm_S) := fun pc ls st D' M =>
  if pc = 60 then (match ls, st with
    | [.ref 1, gl1, .int bl2], [] => (jR_evaluate_60 bl2 D' M)
    | _, _ => none)
  else none
theorem ll38_0 (D : sm_D) {R : sm_S} : ∀ (pc : Nat) (ls st : List Value) (D' : sm_D) (M : sm_M) (v : sm_S), (lf38_0 D) pc ls st D' M = some v → (fun v => v = R) v → sm_WJ smT smCl smSa shM f38 5 pc ls st D' M R := by
  intro pc ls st D' M v h hv
  unfold lf38_0 at h
  by_cases hp0 : pc = 60
  · subst hp0
    rw [if_pos (show (60 : Nat) = 60 from rfl)] at h
    split at h
    · skip
      have hv : v = R := hv
      subst hv
      exact w38_60  h
    · cases h
  · rw [if_neg hp0] at h
    cases h
set_option maxRecDepth 20000 in
set_option maxHeartbeats 4000000 in
theorem we38 {l1 : Int32} {D : sm_D} {M : sm_M} {R : sm_S} (h : jR_evaluate l1 D M = some R) : sm_WJ smT smCl smSa shM f38 5 0 [.ref 1, .int l1, .retAddr 0] [] D M R := by
  have e : jR_evaluate l1 D M = (sm_run shM smSa cal38 c38 false (fun a D M => some (a, D, M)) (lf38_0 D) 62 (c38.drop 0) [.ref 1, .int l1, .retAddr 0] [] D M : Option (sm_S)) := rfl
  exact sm_blk (ρ := sm_S) (gd := (fun v => v = R)) (kx := 38) (i := 0) smVM rfl (by decide) ck38 (fun a D M v e1 e2 => by cases e1; exact e2.symm) (ll38_0 D) rfl (e.symm.trans h) rfl
theorem m38 {l1 : Int32} {D : sm_D} {M : sm_M} {R : sm_S} (h : jR_evaluate l1 D M = some R) : sm_MJ smT smCl smSa shM f38 5 [.ref 1, .int l1] D M R :=
  sm_met (by decide) (Nat.le_of_ble_eq_true rfl) (List.all_eq_true.mp rfl) (we38  h)

-- jR_steps
set_option maxRecDepth 20000 in
set_option maxHeartbeats 4000000 in
theorem we39 {D : sm_D} {M : sm_M} {R : sm_S} (h : jR_steps D M = some R) : sm_WJ smT smCl smSa shM f39 0 0 [.ref 1] [] D M R := by
  have e : jR_steps D M = (sm_run shM smSa sm_nocal c39 false (fun a D M => some (a, D, M)) sm_noleaf 11 (c39.drop 0) [.ref 1] [] D M : Option (sm_S)) := rfl
  exact sm_blk (ρ := sm_S) (gd := (fun v => v = R)) (kx := 39) (i := 0) smVM rfl (by decide) (sm_nocal_ok smT smCl smP smSa shM 0) (fun a D M v e1 e2 => by cases e1; exact e2.symm) (sm_noleaf_ok) rfl (e.symm.trans h) rfl
theorem m39 {D : sm_D} {M : sm_M} {R : sm_S} (h : jR_steps D M = some R) : sm_MJ smT smCl smSa shM f39 0 [.ref 1] D M R :=
  sm_met (by decide) (Nat.le_of_ble_eq_true rfl) (List.all_eq_true.mp rfl) (we39  h)

-- jR_emit
set_option maxRecDepth 20000 in
set_option maxHeartbeats 4000000 in
theorem w40_23 {l1 l2 l3 l4 s1 : Int32} {D : sm_D} {M : sm_M} {R : sm_S} (h : jR_emit_23 l1 l2 l3 l4 s1 D M = some R) : sm_WJ smT smCl smSa shM f40 0 23 [.ref 1, .int l1, .int l2, .int l3, .int l4] [.int s1, .ref 1] D M R := by
  have e : jR_emit_23 l1 l2 l3 l4 s1 D M = (sm_run shM smSa sm_nocal c40 false (fun a D M => some (a, D, M)) sm_noleaf 61 (c40.drop 11) [.ref 1, .int l1, .int l2, .int l3, .int l4] [.int s1, .ref 1] D M : Option (sm_S)) := rfl
  exact sm_blk (ρ := sm_S) (gd := (fun v => v = R)) (kx := 40) (i := 11) smVM rfl (by decide) (sm_nocal_ok smT smCl smP smSa shM 0) (fun a D M v e1 e2 => by cases e1; exact e2.symm) (sm_noleaf_ok) rfl (e.symm.trans h) rfl
noncomputable def lf40_18 (D : sm_D) : Nat → List Value → List Value → sm_D → sm_M → Option (sm_S) := fun pc ls st D' M =>
  if pc = 23 then (match ls, st with
    | [.ref 1, .int bl1, .int bl2, .int bl3, .int bl4], [.int bs1, .ref 1] => (jR_emit_23 bl1 bl2 bl3 bl4 bs1 D' M)
    | _, _ => none)
  else none
theorem ll40_18 (D : sm_D) {R : sm_S} : ∀ (pc : Nat) (ls st : List Value) (D' : sm_D) (M : sm_M) (v : sm_S), (lf40_18 D) pc ls st D' M = some v → (fun v => v = R) v → sm_WJ smT smCl smSa shM f40 0 pc ls st D' M R := by
  intro pc ls st D' M v h hv
  unfold lf40_18 at h
  by_cases hp0 : pc = 23
  · subst hp0
    rw [if_pos (show (23 : Nat) = 23 from rfl)] at h
    split at h
    · skip
      have hv : v = R := hv
      subst hv
      exact w40_23  h
    · cases h
  · rw [if_neg hp0] at h
    cases h
set_option maxRecDepth 20000 in
set_option maxHeartbeats 4000000 in
theorem w40_18 {l1 l2 l3 l4 : Int32} {D : sm_D} {M : sm_M} {R : sm_S} (h : jR_emit_18 l1 l2 l3 l4 D M = some R) : sm_WJ smT smCl smSa shM f40 0 18 [.ref 1, .int l1, .int l2, .int l3, .int l4] [.ref 1] D M R := by
  have e : jR_emit_18 l1 l2 l3 l4 D M = (sm_run shM smSa sm_nocal c40 false (fun a D M => some (a, D, M)) (lf40_18 D) 61 (c40.drop 8) [.ref 1, .int l1, .int l2, .int l3, .int l4] [.ref 1] D M : Option (sm_S)) := rfl
  exact sm_blk (ρ := sm_S) (gd := (fun v => v = R)) (kx := 40) (i := 8) smVM rfl (by decide) (sm_nocal_ok smT smCl smP smSa shM 0) (fun a D M v e1 e2 => by cases e1; exact e2.symm) (ll40_18 D) rfl (e.symm.trans h) rfl
noncomputable def lf40_0 (D : sm_D) : Nat → List Value → List Value → sm_D → sm_M → Option (sm_S) := fun pc ls st D' M =>
  if pc = 18 then (match ls, st with
    | [.ref 1, .int bl1, .int bl2, .int bl3, .int bl4], [.ref 1] => (jR_emit_18 bl1 bl2 bl3 bl4 D' M)
    | _, _ => none)
  else if pc = 23 then (match ls, st with
    | [.ref 1, .int bl1, .int bl2, .int bl3, .int bl4], [.int bs1, .ref 1] => (jR_emit_23 bl1 bl2 bl3 bl4 bs1 D' M)
    | _, _ => none)
  else none
theorem ll40_0 (D : sm_D) {R : sm_S} : ∀ (pc : Nat) (ls st : List Value) (D' : sm_D) (M : sm_M) (v : sm_S), (lf40_0 D) pc ls st D' M = some v → (fun v => v = R) v → sm_WJ smT smCl smSa shM f40 0 pc ls st D' M R := by
  intro pc ls st D' M v h hv
  unfold lf40_0 at h
  by_cases hp0 : pc = 18
  · subst hp0
    rw [if_pos (show (18 : Nat) = 18 from rfl)] at h
    split at h
    · skip
      have hv : v = R := hv
      subst hv
      exact w40_18  h
    · cases h
  · rw [if_neg hp0] at h
    by_cases hp0 : pc = 23
    · subst hp0
      rw [if_pos (show (23 : Nat) = 23 from rfl)] at h
      split at h
      · skip
        have hv : v = R := hv
        subst hv
        exact w40_23  h
      · cases h
    · rw [if_neg hp0] at h
      cases h
set_option maxRecDepth 20000 in
set_option maxHeartbeats 4000000 in
theorem we40 {l1 l2 l3 l4 : Int32} {D : sm_D} {M : sm_M} {R : sm_S} (h : jR_emit l1 l2 l3 l4 D M = some R) : sm_WJ smT smCl smSa shM f40 0 0 [.ref 1, .int l1, .int l2, .int l3, .int l4] [] D M R := by
  have e : jR_emit l1 l2 l3 l4 D M = (sm_run shM smSa sm_nocal c40 false (fun a D M => some (a, D, M)) (lf40_0 D) 61 (c40.drop 0) [.ref 1, .int l1, .int l2, .int l3, .int l4] [] D M : Option (sm_S)) := rfl
  exact sm_blk (ρ := sm_S) (gd := (fun v => v = R)) (kx := 40) (i := 0) smVM rfl (by decide) (sm_nocal_ok smT smCl smP smSa shM 0) (fun a D M v e1 e2 => by cases e1; exact e2.symm) (ll40_0 D) rfl (e.symm.trans h) rfl
theorem m40 {l1 l2 l3 l4 : Int32} {D : sm_D} {M : sm_M} {R : sm_S} (h : jR_emit l1 l2 l3 l4 D M = some R) : sm_MJ smT smCl smSa shM f40 0 [.ref 1, .int l1, .int l2, .int l3, .int l4] D M R :=
  sm_met (by decide) (Nat.le_of_ble_eq_true rfl) (List.all_eq_true.mp rfl) (we40  h)

-- jR_name
set_option maxRecDepth 20000 in
set_option maxHeartbeats 4000000 in
theorem w41_42 {s1 s2 : Int32} {D : sm_D} {M : sm_M} {R : sm_S} (h : jR_name_42 s1 s2 D M = some R) : sm_WJ smT smCl smSa shM f41 0 42 [.ref 1] [.int s2, .int s1, .ref 1] D M R := by
  have e : jR_name_42 s1 s2 D M = (sm_run shM smSa sm_nocal c41 false (fun a D M => some (a, D, M)) sm_noleaf 33 (c41.drop 21) [.ref 1] [.int s2, .int s1, .ref 1] D M : Option (sm_S)) := rfl
  exact sm_blk (ρ := sm_S) (gd := (fun v => v = R)) (kx := 41) (i := 21) smVM rfl (by decide) (sm_nocal_ok smT smCl smP smSa shM 0) (fun a D M v e1 e2 => by cases e1; exact e2.symm) (sm_noleaf_ok) rfl (e.symm.trans h) rfl
noncomputable def lf41_22 (D : sm_D) : Nat → List Value → List Value → sm_D → sm_M → Option (sm_S) := fun pc ls st D' M =>
  if pc = 42 then (match ls, st with
    | [.ref 1], [.int bs2, .int bs1, .ref 1] => (jR_name_42 bs1 bs2 D' M)
    | _, _ => none)
  else none
theorem ll41_22 (D : sm_D) {R : sm_S} : ∀ (pc : Nat) (ls st : List Value) (D' : sm_D) (M : sm_M) (v : sm_S), (lf41_22 D) pc ls st D' M = some v → (fun v => v = R) v → sm_WJ smT smCl smSa shM f41 0 pc ls st D' M R := by
  intro pc ls st D' M v h hv
  unfold lf41_22 at h
  by_cases hp0 : pc = 42
  · subst hp0
    rw [if_pos (show (42 : Nat) = 42 from rfl)] at h
    split at h
    · skip
      have hv : v = R := hv
      subst hv
      exact w41_42  h
    · cases h
  · rw [if_neg hp0] at h
    cases h
set_option maxRecDepth 20000 in
set_option maxHeartbeats 4000000 in
theorem w41_22 {s1 : Int32} {D : sm_D} {M : sm_M} {R : sm_S} (h : jR_name_22 s1 D M = some R) : sm_WJ smT smCl smSa shM f41 0 22 [.ref 1] [.int s1, .ref 1] D M R := by
  have e : jR_name_22 s1 D M = (sm_run shM smSa sm_nocal c41 false (fun a D M => some (a, D, M)) (lf41_22 D) 33 (c41.drop 11) [.ref 1] [.int s1, .ref 1] D M : Option (sm_S)) := rfl
  exact sm_blk (ρ := sm_S) (gd := (fun v => v = R)) (kx := 41) (i := 11) smVM rfl (by decide) (sm_nocal_ok smT smCl smP smSa shM 0) (fun a D M v e1 e2 => by cases e1; exact e2.symm) (ll41_22 D) rfl (e.symm.trans h) rfl
noncomputable def lf41_17 (D : sm_D) : Nat → List Value → List Value → sm_D → sm_M → Option (sm_S) := fun pc ls st D' M =>
  if pc = 22 then (match ls, st with
    | [.ref 1], [.int bs1, .ref 1] => (jR_name_22 bs1 D' M)
    | _, _ => none)
  else none
theorem ll41_17 (D : sm_D) {R : sm_S} : ∀ (pc : Nat) (ls st : List Value) (D' : sm_D) (M : sm_M) (v : sm_S), (lf41_17 D) pc ls st D' M = some v → (fun v => v = R) v → sm_WJ smT smCl smSa shM f41 0 pc ls st D' M R := by
  intro pc ls st D' M v h hv
  unfold lf41_17 at h
  by_cases hp0 : pc = 22
  · subst hp0
    rw [if_pos (show (22 : Nat) = 22 from rfl)] at h
    split at h
    · skip
      have hv : v = R := hv
      subst hv
      exact w41_22  h
    · cases h
  · rw [if_neg hp0] at h
    cases h
set_option maxRecDepth 20000 in
set_option maxHeartbeats 4000000 in
theorem w41_17 {D : sm_D} {M : sm_M} {R : sm_S} (h : jR_name_17 D M = some R) : sm_WJ smT smCl smSa shM f41 0 17 [.ref 1] [.ref 1] D M R := by
  have e : jR_name_17 D M = (sm_run shM smSa sm_nocal c41 false (fun a D M => some (a, D, M)) (lf41_17 D) 33 (c41.drop 8) [.ref 1] [.ref 1] D M : Option (sm_S)) := rfl
  exact sm_blk (ρ := sm_S) (gd := (fun v => v = R)) (kx := 41) (i := 8) smVM rfl (by decide) (sm_nocal_ok smT smCl smP smSa shM 0) (fun a D M v e1 e2 => by cases e1; exact e2.symm) (ll41_17 D) rfl (e.symm.trans h) rfl
noncomputable def lf41_0 (D : sm_D) : Nat → List Value → List Value → sm_D → sm_M → Option (sm_S) := fun pc ls st D' M =>
  if pc = 17 then (match ls, st with
    | [.ref 1], [.ref 1] => (jR_name_17 D' M)
    | _, _ => none)
  else if pc = 22 then (match ls, st with
    | [.ref 1], [.int bs1, .ref 1] => (jR_name_22 bs1 D' M)
    | _, _ => none)
  else none
theorem ll41_0 (D : sm_D) {R : sm_S} : ∀ (pc : Nat) (ls st : List Value) (D' : sm_D) (M : sm_M) (v : sm_S), (lf41_0 D) pc ls st D' M = some v → (fun v => v = R) v → sm_WJ smT smCl smSa shM f41 0 pc ls st D' M R := by
  intro pc ls st D' M v h hv
  unfold lf41_0 at h
  by_cases hp0 : pc = 17
  · subst hp0
    rw [if_pos (show (17 : Nat) = 17 from rfl)] at h
    split at h
    · skip
      have hv : v = R := hv
      subst hv
      exact w41_17  h
    · cases h
  · rw [if_neg hp0] at h
    by_cases hp0 : pc = 22
    · subst hp0
      rw [if_pos (show (22 : Nat) = 22 from rfl)] at h
      split at h
      · skip
        have hv : v = R := hv
        subst hv
        exact w41_22  h
      · cases h
    · rw [if_neg hp0] at h
      cases h
set_option maxRecDepth 20000 in
set_option maxHeartbeats 4000000 in
theorem we41 {D : sm_D} {M : sm_M} {R : sm_S} (h : jR_name D M = some R) : sm_WJ smT smCl smSa shM f41 0 0 [.ref 1] [] D M R := by
  have e : jR_name D M = (sm_run shM smSa sm_nocal c41 false (fun a D M => some (a, D, M)) (lf41_0 D) 33 (c41.drop 0) [.ref 1] [] D M : Option (sm_S)) := rfl
  exact sm_blk (ρ := sm_S) (gd := (fun v => v = R)) (kx := 41) (i := 0) smVM rfl (by decide) (sm_nocal_ok smT smCl smP smSa shM 0) (fun a D M v e1 e2 => by cases e1; exact e2.symm) (ll41_0 D) rfl (e.symm.trans h) rfl
theorem m41 {D : sm_D} {M : sm_M} {R : sm_S} (h : jR_name D M = some R) : sm_MJ smT smCl smSa shM f41 0 [.ref 1] D M R :=
  sm_met (by decide) (Nat.le_of_ble_eq_true rfl) (List.all_eq_true.mp rfl) (we41  h)

-- jR_beginBlock
set_option maxRecDepth 20000 in
set_option maxHeartbeats 4000000 in
theorem we42 {l1 l2 l3 l4 : Int32} {D : sm_D} {M : sm_M} {R : sm_S} (h : jR_beginBlock l1 l2 l3 l4 D M = some R) : sm_WJ smT smCl smSa shM f42 0 0 [.ref 1, .int l1, .int l2, .int l3, .int l4] [] D M R := by
  have e : jR_beginBlock l1 l2 l3 l4 D M = (sm_run shM smSa sm_nocal c42 false (fun a D M => some (a, D, M)) sm_noleaf 45 (c42.drop 0) [.ref 1, .int l1, .int l2, .int l3, .int l4] [] D M : Option (sm_S)) := rfl
  exact sm_blk (ρ := sm_S) (gd := (fun v => v = R)) (kx := 42) (i := 0) smVM rfl (by decide) (sm_nocal_ok smT smCl smP smSa shM 0) (fun a D M v e1 e2 => by cases e1; exact e2.symm) (sm_noleaf_ok) rfl (e.symm.trans h) rfl
theorem m42 {l1 l2 l3 l4 : Int32} {D : sm_D} {M : sm_M} {R : sm_S} (h : jR_beginBlock l1 l2 l3 l4 D M = some R) : sm_MJ smT smCl smSa shM f42 0 [.ref 1, .int l1, .int l2, .int l3, .int l4] D M R :=
  sm_met (by decide) (Nat.le_of_ble_eq_true rfl) (List.all_eq_true.mp rfl) (we42  h)

-- jR_grow
noncomputable def cal43  : sm_Cal := fun x as D M =>
  if x = 18 then (match as with
    | [.ref 1, .int a1, .int a2, .int a3, .int a4] => (jR_find a1 a2 a3 a4 D M)
    | _ => none)
  else none
theorem ck43  : sm_CalOk smT smCl smP smSa shM 2 cal43 := by
  intro x g as D M R hx h
  unfold cal43 at h
  by_cases hx' : x = 18
  · subst hx'
    rw [if_pos (show (18 : Nat) = 18 from rfl)] at h
    cases (show smP[18]? = some f18 from rfl).symm.trans hx
    split at h
    · skip
      exact Or.inl ⟨1, by omega, m18   h⟩
    · cases h
  · rw [if_neg hx'] at h
    cases h
set_option maxRecDepth 20000 in
set_option maxHeartbeats 4000000 in
theorem we43 {l1 l2 : Int32} {D : sm_D} {M : sm_M} {R : sm_S} (h : jR_grow l1 l2 D M = some R) : sm_WJ smT smCl smSa shM f43 2 0 [.ref 1, .int l1, .int l2] [] D M R := by
  have e : jR_grow l1 l2 D M = (sm_run shM smSa cal43 c43 false (fun a D M => some (a, D, M)) sm_noleaf 50 (c43.drop 0) [.ref 1, .int l1, .int l2] [] D M : Option (sm_S)) := rfl
  exact sm_blk (ρ := sm_S) (gd := (fun v => v = R)) (kx := 43) (i := 0) smVM rfl (by decide) ck43 (fun a D M v e1 e2 => by cases e1; exact e2.symm) (sm_noleaf_ok) rfl (e.symm.trans h) rfl
theorem m43 {l1 l2 : Int32} {D : sm_D} {M : sm_M} {R : sm_S} (h : jR_grow l1 l2 D M = some R) : sm_MJ smT smCl smSa shM f43 2 [.ref 1, .int l1, .int l2] D M R :=
  sm_met (by decide) (Nat.le_of_ble_eq_true rfl) (List.all_eq_true.mp rfl) (we43  h)

-- jR_doLater
set_option maxRecDepth 20000 in
set_option maxHeartbeats 4000000 in
theorem we44 {l1 l2 l3 : Int32} {D : sm_D} {M : sm_M} {R : sm_S} (h : jR_doLater l1 l2 l3 D M = some R) : sm_WJ smT smCl smSa shM f44 0 0 [.ref 1, .int l1, .int l2, .int l3] [] D M R := by
  have e : jR_doLater l1 l2 l3 D M = (sm_run shM smSa sm_nocal c44 false (fun a D M => some (a, D, M)) sm_noleaf 30 (c44.drop 0) [.ref 1, .int l1, .int l2, .int l3] [] D M : Option (sm_S)) := rfl
  exact sm_blk (ρ := sm_S) (gd := (fun v => v = R)) (kx := 44) (i := 0) smVM rfl (by decide) (sm_nocal_ok smT smCl smP smSa shM 0) (fun a D M v e1 e2 => by cases e1; exact e2.symm) (sm_noleaf_ok) rfl (e.symm.trans h) rfl
theorem m44 {l1 l2 l3 : Int32} {D : sm_D} {M : sm_M} {R : sm_S} (h : jR_doLater l1 l2 l3 D M = some R) : sm_MJ smT smCl smSa shM f44 0 [.ref 1, .int l1, .int l2, .int l3] D M R :=
  sm_met (by decide) (Nat.le_of_ble_eq_true rfl) (List.all_eq_true.mp rfl) (we44  h)

-- jR_finish
set_option maxRecDepth 20000 in
set_option maxHeartbeats 4000000 in
theorem we45 {l1 : Int32} {D : sm_D} {M : sm_M} {R : sm_S} (h : jR_finish l1 D M = some R) : sm_WJ smT smCl smSa shM f45 0 0 [.ref 1, .int l1] [] D M R := by
  have e : jR_finish l1 D M = (sm_run shM smSa sm_nocal c45 false (fun a D M => some (a, D, M)) sm_noleaf 18 (c45.drop 0) [.ref 1, .int l1] [] D M : Option (sm_S)) := rfl
  exact sm_blk (ρ := sm_S) (gd := (fun v => v = R)) (kx := 45) (i := 0) smVM rfl (by decide) (sm_nocal_ok smT smCl smP smSa shM 0) (fun a D M v e1 e2 => by cases e1; exact e2.symm) (sm_noleaf_ok) rfl (e.symm.trans h) rfl
theorem m45 {l1 : Int32} {D : sm_D} {M : sm_M} {R : sm_S} (h : jR_finish l1 D M = some R) : sm_MJ smT smCl smSa shM f45 0 [.ref 1, .int l1] D M R :=
  sm_met (by decide) (Nat.le_of_ble_eq_true rfl) (List.all_eq_true.mp rfl) (we45  h)

-- jR_doneLast
set_option maxRecDepth 20000 in
set_option maxHeartbeats 4000000 in
theorem we46 {D : sm_D} {M : sm_M} {R : sm_S} (h : jR_doneLast D M = some R) : sm_WJ smT smCl smSa shM f46 0 0 [.ref 1] [] D M R := by
  have e : jR_doneLast D M = (sm_run shM smSa sm_nocal c46 false (fun a D M => some (a, D, M)) sm_noleaf 17 (c46.drop 0) [.ref 1] [] D M : Option (sm_S)) := rfl
  exact sm_blk (ρ := sm_S) (gd := (fun v => v = R)) (kx := 46) (i := 0) smVM rfl (by decide) (sm_nocal_ok smT smCl smP smSa shM 0) (fun a D M v e1 e2 => by cases e1; exact e2.symm) (sm_noleaf_ok) rfl (e.symm.trans h) rfl
theorem m46 {D : sm_D} {M : sm_M} {R : sm_S} (h : jR_doneLast D M = some R) : sm_MJ smT smCl smSa shM f46 0 [.ref 1] D M R :=
  sm_met (by decide) (Nat.le_of_ble_eq_true rfl) (List.all_eq_true.mp rfl) (we46  h)

-- jR_push
noncomputable def cal47  : sm_Cal := fun x as D M =>
  if x = 40 then (match as with
    | [.ref 1, .int a1, .int a2, .int a3, .int a4] => (jR_emit a1 a2 a3 a4 D M)
    | _ => none)
  else if x = 46 then (match as with
    | [.ref 1] => (jR_doneLast D M)
    | _ => none)
  else if x = 43 then (match as with
    | [.ref 1, .int a1, .int a2] => (jR_grow a1 a2 D M)
    | _ => none)
  else none
theorem ck47  : sm_CalOk smT smCl smP smSa shM 3 cal47 := by
  intro x g as D M R hx h
  unfold cal47 at h
  by_cases hx' : x = 40
  · subst hx'
    rw [if_pos (show (40 : Nat) = 40 from rfl)] at h
    cases (show smP[40]? = some f40 from rfl).symm.trans hx
    split at h
    · skip
      exact Or.inl ⟨0, by omega, m40   h⟩
    · cases h
  · rw [if_neg hx'] at h
    by_cases hx' : x = 46
    · subst hx'
      rw [if_pos (show (46 : Nat) = 46 from rfl)] at h
      cases (show smP[46]? = some f46 from rfl).symm.trans hx
      split at h
      · skip
        exact Or.inl ⟨0, by omega, m46   h⟩
      · cases h
    · rw [if_neg hx'] at h
      by_cases hx' : x = 43
      · subst hx'
        rw [if_pos (show (43 : Nat) = 43 from rfl)] at h
        cases (show smP[43]? = some f43 from rfl).symm.trans hx
        split at h
        · skip
          exact Or.inl ⟨2, by omega, m43   h⟩
        · cases h
      · rw [if_neg hx'] at h
        cases h
set_option maxRecDepth 20000 in
set_option maxHeartbeats 4000000 in
theorem we47 {l1 : Int32} {D : sm_D} {M : sm_M} {R : sm_S} (h : jR_push l1 D M = some R) : sm_WJ smT smCl smSa shM f47 3 0 [.ref 1, .int l1] [] D M R := by
  have e : jR_push l1 D M = (sm_run shM smSa cal47 c47 false (fun a D M => some (a, D, M)) sm_noleaf 17 (c47.drop 0) [.ref 1, .int l1] [] D M : Option (sm_S)) := rfl
  exact sm_blk (ρ := sm_S) (gd := (fun v => v = R)) (kx := 47) (i := 0) smVM rfl (by decide) ck47 (fun a D M v e1 e2 => by cases e1; exact e2.symm) (sm_noleaf_ok) rfl (e.symm.trans h) rfl
theorem m47 {l1 : Int32} {D : sm_D} {M : sm_M} {R : sm_S} (h : jR_push l1 D M = some R) : sm_MJ smT smCl smSa shM f47 3 [.ref 1, .int l1] D M R :=
  sm_met (by decide) (Nat.le_of_ble_eq_true rfl) (List.all_eq_true.mp rfl) (we47  h)

-- jR_pop
noncomputable def cal48  : sm_Cal := fun x as D M =>
  if x = 40 then (match as with
    | [.ref 1, .int a1, .int a2, .int a3, .int a4] => (jR_emit a1 a2 a3 a4 D M)
    | _ => none)
  else none
theorem ck48  : sm_CalOk smT smCl smP smSa shM 1 cal48 := by
  intro x g as D M R hx h
  unfold cal48 at h
  by_cases hx' : x = 40
  · subst hx'
    rw [if_pos (show (40 : Nat) = 40 from rfl)] at h
    cases (show smP[40]? = some f40 from rfl).symm.trans hx
    split at h
    · skip
      exact Or.inl ⟨0, by omega, m40   h⟩
    · cases h
  · rw [if_neg hx'] at h
    cases h
set_option maxRecDepth 20000 in
set_option maxHeartbeats 4000000 in
theorem we48 {D : sm_D} {M : sm_M} {R : sm_S} (h : jR_pop D M = some R) : sm_WJ smT smCl smSa shM f48 1 0 [.ref 1] [] D M R := by
  have e : jR_pop D M = (sm_run shM smSa cal48 c48 false (fun a D M => some (a, D, M)) sm_noleaf 19 (c48.drop 0) [.ref 1] [] D M : Option (sm_S)) := rfl
  exact sm_blk (ρ := sm_S) (gd := (fun v => v = R)) (kx := 48) (i := 0) smVM rfl (by decide) ck48 (fun a D M v e1 e2 => by cases e1; exact e2.symm) (sm_noleaf_ok) rfl (e.symm.trans h) rfl
theorem m48 {D : sm_D} {M : sm_M} {R : sm_S} (h : jR_pop D M = some R) : sm_MJ smT smCl smSa shM f48 1 [.ref 1] D M R :=
  sm_met (by decide) (Nat.le_of_ble_eq_true rfl) (List.all_eq_true.mp rfl) (we48  h)

-- jR_variable
noncomputable def cal49  : sm_Cal := fun x as D M =>
  if x = 40 then (match as with
    | [.ref 1, .int a1, .int a2, .int a3, .int a4] => (jR_emit a1 a2 a3 a4 D M)
    | _ => none)
  else if x = 45 then (match as with
    | [.ref 1, .int a1] => (jR_finish a1 D M)
    | _ => none)
  else none
theorem ck49  : sm_CalOk smT smCl smP smSa shM 1 cal49 := by
  intro x g as D M R hx h
  unfold cal49 at h
  by_cases hx' : x = 40
  · subst hx'
    rw [if_pos (show (40 : Nat) = 40 from rfl)] at h
    cases (show smP[40]? = some f40 from rfl).symm.trans hx
    split at h
    · skip
      exact Or.inl ⟨0, by omega, m40   h⟩
    · cases h
  · rw [if_neg hx'] at h
    by_cases hx' : x = 45
    · subst hx'
      rw [if_pos (show (45 : Nat) = 45 from rfl)] at h
      cases (show smP[45]? = some f45 from rfl).symm.trans hx
      split at h
      · skip
        exact Or.inl ⟨0, by omega, m45   h⟩
      · cases h
    · rw [if_neg hx'] at h
      cases h
def lh49_10 (D : sm_D) (R : sm_S) (s : Int32 × Int32 × Int32 × sm_M) : Prop := ∀ (g1 g5 : Value), sm_WJ smT smCl smSa shM f49 1 10 [.ref 1, g1, .int (s.1), .int (s.2.1), .int (s.2.2.1), g5] [] D (s.2.2.2) R
def gd49_10 (D : sm_D) (R : sm_S) (v : (Int32 × Int32 × Int32 × sm_M) ⊕ sm_S) : Prop := match v with
  | .inl s => lh49_10 D R s
  | .inr r => r = R
noncomputable def lf49_40 (D : sm_D) : Nat → List Value → List Value → sm_D → sm_M → Option ((Int32 × Int32 × Int32 × sm_M) ⊕ sm_S) := fun pc ls st D' M =>
  if pc = 10 then (match ls, st with
    | [.ref 1, gl1, .int bl2, .int bl3, .int bl4, gl5], [] => (sm_dq D' D (some (.inl (bl2, bl3, bl4, M))))
    | _, _ => none)
  else none
theorem ll49_40 (D : sm_D) {R : sm_S} : ∀ (pc : Nat) (ls st : List Value) (D' : sm_D) (M : sm_M) (v : (Int32 × Int32 × Int32 × sm_M) ⊕ sm_S), (lf49_40 D) pc ls st D' M = some v → (gd49_10 D R) v → sm_WJ smT smCl smSa shM f49 1 pc ls st D' M R := by
  intro pc ls st D' M v h hv
  unfold lf49_40 at h
  by_cases hp0 : pc = 10
  · subst hp0
    rw [if_pos (show (10 : Nat) = 10 from rfl)] at h
    split at h
    · skip
      replace h := sm_dq_inv h
      obtain ⟨he, h⟩ := h
      subst he
      cases h
      exact hv _ _
    · cases h
  · rw [if_neg hp0] at h
    cases h
set_option maxRecDepth 20000 in
set_option maxHeartbeats 4000000 in
theorem w49_40 (D : sm_D) {l2 l3 s0 s1 : Int32} {g1 g4 g5 : Value} {M : sm_M} {R : sm_S} {v : (Int32 × Int32 × Int32 × sm_M) ⊕ sm_S} (h : jR_variable_40 l2 l3 s0 s1 D M = some v) (hv : (gd49_10 D R) v) : sm_WJ smT smCl smSa shM f49 1 40 [.ref 1, g1, .int l2, .int l3, g4, g5] [.int s1, .int s0] D M R := by
  have e : jR_variable_40 l2 l3 s0 s1 D M = (sm_run shM smSa cal49 c49 false (fun a D M => some (.inr (a, D, M))) (lf49_40 D) 79 (c49.drop 23) [.ref 1, g1, .int l2, .int l3, g4, g5] [.int s1, .int s0] D M : Option ((Int32 × Int32 × Int32 × sm_M) ⊕ sm_S)) := rfl
  exact sm_blk (ρ := (Int32 × Int32 × Int32 × sm_M) ⊕ sm_S) (gd := (gd49_10 D R)) (kx := 49) (i := 23) smVM rfl (by decide) ck49 (fun a D M v e1 e2 => by cases e1; exact e2.symm) (ll49_40 D) rfl (e.symm.trans h) hv
noncomputable def lf49_24 (D : sm_D) : Nat → List Value → List Value → sm_D → sm_M → Option ((Int32 × Int32 × Int32 × sm_M) ⊕ sm_S) := fun pc ls st D' M =>
  if pc = 40 then (match ls, st with
    | [.ref 1, gl1, .int bl2, .int bl3, gl4, gl5], [.int bs1, .int bs0] => (sm_dq D' D (jR_variable_40 bl2 bl3 bs0 bs1 D' M))
    | _, _ => none)
  else none
theorem ll49_24 (D : sm_D) {R : sm_S} : ∀ (pc : Nat) (ls st : List Value) (D' : sm_D) (M : sm_M) (v : (Int32 × Int32 × Int32 × sm_M) ⊕ sm_S), (lf49_24 D) pc ls st D' M = some v → (gd49_10 D R) v → sm_WJ smT smCl smSa shM f49 1 pc ls st D' M R := by
  intro pc ls st D' M v h hv
  unfold lf49_24 at h
  by_cases hp0 : pc = 40
  · subst hp0
    rw [if_pos (show (40 : Nat) = 40 from rfl)] at h
    split at h
    · skip
      replace h := sm_dq_inv h
      obtain ⟨he, h⟩ := h
      subst he
      exact w49_40 _ h hv
    · cases h
  · rw [if_neg hp0] at h
    cases h
set_option maxRecDepth 20000 in
set_option maxHeartbeats 4000000 in
theorem w49_24 (D : sm_D) {l2 l3 l4 : Int32} {g1 g5 : Value} {M : sm_M} {R : sm_S} {v : (Int32 × Int32 × Int32 × sm_M) ⊕ sm_S} (h : jR_variable_24 l2 l3 l4 D M = some v) (hv : (gd49_10 D R) v) : sm_WJ smT smCl smSa shM f49 1 24 [.ref 1, g1, .int l2, .int l3, .int l4, g5] [] D M R := by
  have e : jR_variable_24 l2 l3 l4 D M = (sm_run shM smSa cal49 c49 false (fun a D M => some (.inr (a, D, M))) (lf49_24 D) 79 (c49.drop 14) [.ref 1, g1, .int l2, .int l3, .int l4, g5] [] D M : Option ((Int32 × Int32 × Int32 × sm_M) ⊕ sm_S)) := rfl
  exact sm_blk (ρ := (Int32 × Int32 × Int32 × sm_M) ⊕ sm_S) (gd := (gd49_10 D R)) (kx := 49) (i := 14) smVM rfl (by decide) ck49 (fun a D M v e1 e2 => by cases e1; exact e2.symm) (ll49_24 D) rfl (e.symm.trans h) hv
set_option maxRecDepth 20000 in
set_option maxHeartbeats 4000000 in
theorem w49_111 {l3 : Int32} {g1 g2 g4 g5 : Value} {D : sm_D} {M : sm_M} {R : sm_S} (h : jR_variable_111 l3 D M = some R) : sm_WJ smT smCl smSa shM f49 1 111 [.ref 1, g1, g2, .int l3, g4, g5] [] D M R := by
  have e : jR_variable_111 l3 D M = (sm_run shM smSa cal49 c49 false (fun a D M => some (a, D, M)) sm_noleaf 79 (c49.drop 67) [.ref 1, g1, g2, .int l3, g4, g5] [] D M : Option (sm_S)) := rfl
  exact sm_blk (ρ := sm_S) (gd := (fun v => v = R)) (kx := 49) (i := 67) smVM rfl (by decide) ck49 (fun a D M v e1 e2 => by cases e1; exact e2.symm) (sm_noleaf_ok) rfl (e.symm.trans h) rfl
def lh49_83 (D : sm_D) (R : sm_S) (s : Int32 × Int32 × Int32 × sm_M) : Prop := ∀ (g1 g4 : Value), sm_WJ smT smCl smSa shM f49 1 83 [.ref 1, g1, .int (s.1), .int (s.2.1), g4, .int (s.2.2.1)] [] D (s.2.2.2) R
def gd49_83 (D : sm_D) (R : sm_S) (v : (Int32 × Int32 × Int32 × sm_M) ⊕ sm_S) : Prop := match v with
  | .inl s => lh49_83 D R s
  | .inr r => r = R
noncomputable def lf49_83 (D : sm_D) : Nat → List Value → List Value → sm_D → sm_M → Option ((Int32 × Int32 × Int32 × sm_M) ⊕ sm_S) := fun pc ls st D' M =>
  if pc = 83 then (match ls, st with
    | [.ref 1, gl1, .int bl2, .int bl3, gl4, .int bl5], [] => (sm_dq D' D (some (.inl (bl2, bl3, bl5, M))))
    | _, _ => none)
  else if pc = 111 then (match ls, st with
    | [.ref 1, gl1, gl2, .int bl3, gl4, gl5], [] => (sm_inr (jR_variable_111 bl3 D' M))
    | _, _ => none)
  else none
theorem ll49_83 (D : sm_D) {R : sm_S} : ∀ (pc : Nat) (ls st : List Value) (D' : sm_D) (M : sm_M) (v : (Int32 × Int32 × Int32 × sm_M) ⊕ sm_S), (lf49_83 D) pc ls st D' M = some v → (gd49_83 D R) v → sm_WJ smT smCl smSa shM f49 1 pc ls st D' M R := by
  intro pc ls st D' M v h hv
  unfold lf49_83 at h
  by_cases hp0 : pc = 83
  · subst hp0
    rw [if_pos (show (83 : Nat) = 83 from rfl)] at h
    split at h
    · skip
      replace h := sm_dq_inv h
      obtain ⟨he, h⟩ := h
      subst he
      cases h
      exact hv _ _
    · cases h
  · rw [if_neg hp0] at h
    by_cases hp0 : pc = 111
    · subst hp0
      rw [if_pos (show (111 : Nat) = 111 from rfl)] at h
      split at h
      · skip
        replace h := sm_inr_inv h
        obtain ⟨r, h, he⟩ := h
        subst he
        have hv : r = R := hv
        subst hv
        exact w49_111  h
      · cases h
    · rw [if_neg hp0] at h
      cases h
set_option maxRecDepth 20000 in
set_option maxHeartbeats 4000000 in
theorem wc49_83 (D : sm_D) {l2 l3 l5 : Int32} {g1 g4 : Value} {M : sm_M} {R : sm_S} {v : (Int32 × Int32 × Int32 × sm_M) ⊕ sm_S} (h : jR_variable_83_c l2 l3 l5 D M = some v) (hv : (gd49_83 D R) v) : sm_WJ smT smCl smSa shM f49 1 83 [.ref 1, g1, .int l2, .int l3, g4, .int l5] [] D M R := by
  have e : jR_variable_83_c l2 l3 l5 D M = (sm_run shM smSa cal49 c49 false (fun a D M => some (.inr (a, D, M))) (lf49_83 D) 79 (c49.drop 50) [.ref 1, g1, .int l2, .int l3, g4, .int l5] [] D M : Option ((Int32 × Int32 × Int32 × sm_M) ⊕ sm_S)) := rfl
  exact sm_blk (ρ := (Int32 × Int32 × Int32 × sm_M) ⊕ sm_S) (gd := (gd49_83 D R)) (kx := 49) (i := 50) smVM rfl (by decide) ck49 (fun a D M v e1 e2 => by cases e1; exact e2.symm) (ll49_83 D) rfl (e.symm.trans h) hv
theorem w49_83 {l2 l3 l5 : Int32} {g1 g4 : Value} {D : sm_D} {M : sm_M} {R : sm_S} (h : jR_variable_83 l2 l3 l5 D M = some R) : sm_WJ smT smCl smSa shM f49 1 83 [.ref 1, g1, .int l2, .int l3, g4, .int l5] [] D M R := by
  have hh : lh49_83 D R (l2, l3, l5, M) := by
    refine sm_lp_ind (b := jR_variable_83_b D) (r := R) (lh49_83 D R) ?_ h
    intro s v hb h1 h2
    obtain ⟨z0, z1, z2, M1⟩ := s
    have hv : gd49_83 D R v := by
      cases v with
      | inl s' => exact h1 s' rfl
      | inr r => exact h2 r rfl
    intro g1 g4
    exact wc49_83 D hb hv
  exact hh _ _
noncomputable def lf49_68 (D : sm_D) : Nat → List Value → List Value → sm_D → sm_M → Option (sm_S) := fun pc ls st D' M =>
  if pc = 83 then (match ls, st with
    | [.ref 1, gl1, .int bl2, .int bl3, gl4, .int bl5], [] => (jR_variable_83 bl2 bl3 bl5 D' M)
    | _, _ => none)
  else if pc = 111 then (match ls, st with
    | [.ref 1, gl1, gl2, .int bl3, gl4, gl5], [] => (jR_variable_111 bl3 D' M)
    | _, _ => none)
  else none
theorem ll49_68 (D : sm_D) {R : sm_S} : ∀ (pc : Nat) (ls st : List Value) (D' : sm_D) (M : sm_M) (v : sm_S), (lf49_68 D) pc ls st D' M = some v → (fun v => v = R) v → sm_WJ smT smCl smSa shM f49 1 pc ls st D' M R := by
  intro pc ls st D' M v h hv
  unfold lf49_68 at h
  by_cases hp0 : pc = 83
  · subst hp0
    rw [if_pos (show (83 : Nat) = 83 from rfl)] at h
    split at h
    · skip
      have hv : v = R := hv
      subst hv
      exact w49_83  h
    · cases h
  · rw [if_neg hp0] at h
    by_cases hp0 : pc = 111
    · subst hp0
      rw [if_pos (show (111 : Nat) = 111 from rfl)] at h
      split at h
      · skip
        have hv : v = R := hv
        subst hv
        exact w49_111  h
      · cases h
    · rw [if_neg hp0] at h
      cases h
set_option maxRecDepth 20000 in
set_option maxHeartbeats 4000000 in
theorem w49_68 {l2 l3 : Int32} {g1 g4 g5 : Value} {D : sm_D} {M : sm_M} {R : sm_S} (h : jR_variable_68 l2 l3 D M = some R) : sm_WJ smT smCl smSa shM f49 1 68 [.ref 1, g1, .int l2, .int l3, g4, g5] [] D M R := by
  have e : jR_variable_68 l2 l3 D M = (sm_run shM smSa cal49 c49 false (fun a D M => some (a, D, M)) (lf49_68 D) 79 (c49.drop 40) [.ref 1, g1, .int l2, .int l3, g4, g5] [] D M : Option (sm_S)) := rfl
  exact sm_blk (ρ := sm_S) (gd := (fun v => v = R)) (kx := 49) (i := 40) smVM rfl (by decide) ck49 (fun a D M v e1 e2 => by cases e1; exact e2.symm) (ll49_68 D) rfl (e.symm.trans h) rfl
noncomputable def lf49_10 (D : sm_D) : Nat → List Value → List Value → sm_D → sm_M → Option ((Int32 × Int32 × Int32 × sm_M) ⊕ sm_S) := fun pc ls st D' M =>
  if pc = 24 then (match ls, st with
    | [.ref 1, gl1, .int bl2, .int bl3, .int bl4, gl5], [] => (sm_dq D' D (jR_variable_24 bl2 bl3 bl4 D' M))
    | _, _ => none)
  else if pc = 68 then (match ls, st with
    | [.ref 1, gl1, .int bl2, .int bl3, gl4, gl5], [] => (sm_inr (jR_variable_68 bl2 bl3 D' M))
    | _, _ => none)
  else none
theorem ll49_10 (D : sm_D) {R : sm_S} : ∀ (pc : Nat) (ls st : List Value) (D' : sm_D) (M : sm_M) (v : (Int32 × Int32 × Int32 × sm_M) ⊕ sm_S), (lf49_10 D) pc ls st D' M = some v → (gd49_10 D R) v → sm_WJ smT smCl smSa shM f49 1 pc ls st D' M R := by
  intro pc ls st D' M v h hv
  unfold lf49_10 at h
  by_cases hp0 : pc = 24
  · subst hp0
    rw [if_pos (show (24 : Nat) = 24 from rfl)] at h
    split at h
    · skip
      replace h := sm_dq_inv h
      obtain ⟨he, h⟩ := h
      subst he
      exact w49_24 _ h hv
    · cases h
  · rw [if_neg hp0] at h
    by_cases hp0 : pc = 68
    · subst hp0
      rw [if_pos (show (68 : Nat) = 68 from rfl)] at h
      split at h
      · skip
        replace h := sm_inr_inv h
        obtain ⟨r, h, he⟩ := h
        subst he
        have hv : r = R := hv
        subst hv
        exact w49_68  h
      · cases h
    · rw [if_neg hp0] at h
      cases h
set_option maxRecDepth 20000 in
set_option maxHeartbeats 4000000 in
theorem wc49_10 (D : sm_D) {l2 l3 l4 : Int32} {g1 g5 : Value} {M : sm_M} {R : sm_S} {v : (Int32 × Int32 × Int32 × sm_M) ⊕ sm_S} (h : jR_variable_10_c l2 l3 l4 D M = some v) (hv : (gd49_10 D R) v) : sm_WJ smT smCl smSa shM f49 1 10 [.ref 1, g1, .int l2, .int l3, .int l4, g5] [] D M R := by
  have e : jR_variable_10_c l2 l3 l4 D M = (sm_run shM smSa cal49 c49 false (fun a D M => some (.inr (a, D, M))) (lf49_10 D) 79 (c49.drop 7) [.ref 1, g1, .int l2, .int l3, .int l4, g5] [] D M : Option ((Int32 × Int32 × Int32 × sm_M) ⊕ sm_S)) := rfl
  exact sm_blk (ρ := (Int32 × Int32 × Int32 × sm_M) ⊕ sm_S) (gd := (gd49_10 D R)) (kx := 49) (i := 7) smVM rfl (by decide) ck49 (fun a D M v e1 e2 => by cases e1; exact e2.symm) (ll49_10 D) rfl (e.symm.trans h) hv
theorem w49_10 {l2 l3 l4 : Int32} {g1 g5 : Value} {D : sm_D} {M : sm_M} {R : sm_S} (h : jR_variable_10 l2 l3 l4 D M = some R) : sm_WJ smT smCl smSa shM f49 1 10 [.ref 1, g1, .int l2, .int l3, .int l4, g5] [] D M R := by
  have hh : lh49_10 D R (l2, l3, l4, M) := by
    refine sm_lp_ind (b := jR_variable_10_b D) (r := R) (lh49_10 D R) ?_ h
    intro s v hb h1 h2
    obtain ⟨z0, z1, z2, M1⟩ := s
    have hv : gd49_10 D R v := by
      cases v with
      | inl s' => exact h1 s' rfl
      | inr r => exact h2 r rfl
    intro g1 g5
    exact wc49_10 D hb hv
  exact hh _ _
noncomputable def lf49_0 (D : sm_D) : Nat → List Value → List Value → sm_D → sm_M → Option (sm_S) := fun pc ls st D' M =>
  if pc = 10 then (match ls, st with
    | [.ref 1, gl1, .int bl2, .int bl3, .int bl4, gl5], [] => (jR_variable_10 bl2 bl3 bl4 D' M)
    | _, _ => none)
  else none
theorem ll49_0 (D : sm_D) {R : sm_S} : ∀ (pc : Nat) (ls st : List Value) (D' : sm_D) (M : sm_M) (v : sm_S), (lf49_0 D) pc ls st D' M = some v → (fun v => v = R) v → sm_WJ smT smCl smSa shM f49 1 pc ls st D' M R := by
  intro pc ls st D' M v h hv
  unfold lf49_0 at h
  by_cases hp0 : pc = 10
  · subst hp0
    rw [if_pos (show (10 : Nat) = 10 from rfl)] at h
    split at h
    · skip
      have hv : v = R := hv
      subst hv
      exact w49_10  h
    · cases h
  · rw [if_neg hp0] at h
    cases h
set_option maxRecDepth 20000 in
set_option maxHeartbeats 4000000 in
theorem we49 {l1 : Int32} {D : sm_D} {M : sm_M} {R : sm_S} (h : jR_variable l1 D M = some R) : sm_WJ smT smCl smSa shM f49 1 0 [.ref 1, .int l1, .retAddr 0, .retAddr 0, .retAddr 0, .retAddr 0] [] D M R := by
  have e : jR_variable l1 D M = (sm_run shM smSa cal49 c49 false (fun a D M => some (a, D, M)) (lf49_0 D) 79 (c49.drop 0) [.ref 1, .int l1, .retAddr 0, .retAddr 0, .retAddr 0, .retAddr 0] [] D M : Option (sm_S)) := rfl
  exact sm_blk (ρ := sm_S) (gd := (fun v => v = R)) (kx := 49) (i := 0) smVM rfl (by decide) ck49 (fun a D M v e1 e2 => by cases e1; exact e2.symm) (ll49_0 D) rfl (e.symm.trans h) rfl
theorem m49 {l1 : Int32} {D : sm_D} {M : sm_M} {R : sm_S} (h : jR_variable l1 D M = some R) : sm_MJ smT smCl smSa shM f49 1 [.ref 1, .int l1] D M R :=
  sm_met (by decide) (Nat.le_of_ble_eq_true rfl) (List.all_eq_true.mp rfl) (we49  h)

-- jR_lambda
noncomputable def cal50  : sm_Cal := fun x as D M =>
  if x = 41 then (match as with
    | [.ref 1] => (jR_name D M)
    | _ => none)
  else if x = 40 then (match as with
    | [.ref 1, .int a1, .int a2, .int a3, .int a4] => (jR_emit a1 a2 a3 a4 D M)
    | _ => none)
  else if x = 45 then (match as with
    | [.ref 1, .int a1] => (jR_finish a1 D M)
    | _ => none)
  else none
theorem ck50  : sm_CalOk smT smCl smP smSa shM 1 cal50 := by
  intro x g as D M R hx h
  unfold cal50 at h
  by_cases hx' : x = 41
  · subst hx'
    rw [if_pos (show (41 : Nat) = 41 from rfl)] at h
    cases (show smP[41]? = some f41 from rfl).symm.trans hx
    split at h
    · skip
      exact Or.inl ⟨0, by omega, m41   h⟩
    · cases h
  · rw [if_neg hx'] at h
    by_cases hx' : x = 40
    · subst hx'
      rw [if_pos (show (40 : Nat) = 40 from rfl)] at h
      cases (show smP[40]? = some f40 from rfl).symm.trans hx
      split at h
      · skip
        exact Or.inl ⟨0, by omega, m40   h⟩
      · cases h
    · rw [if_neg hx'] at h
      by_cases hx' : x = 45
      · subst hx'
        rw [if_pos (show (45 : Nat) = 45 from rfl)] at h
        cases (show smP[45]? = some f45 from rfl).symm.trans hx
        split at h
        · skip
          exact Or.inl ⟨0, by omega, m45   h⟩
        · cases h
      · rw [if_neg hx'] at h
        cases h
set_option maxRecDepth 20000 in
set_option maxHeartbeats 4000000 in
theorem w50_91 {l1 : Int32} {g2 : Value} {D : sm_D} {M : sm_M} {R : sm_S} (h : jR_lambda_91 l1 D M = some R) : sm_WJ smT smCl smSa shM f50 1 91 [.ref 1, .int l1, g2] [] D M R := by
  have e : jR_lambda_91 l1 D M = (sm_run shM smSa cal50 c50 false (fun a D M => some (a, D, M)) sm_noleaf 70 (c50.drop 55) [.ref 1, .int l1, g2] [] D M : Option (sm_S)) := rfl
  exact sm_blk (ρ := sm_S) (gd := (fun v => v = R)) (kx := 50) (i := 55) smVM rfl (by decide) ck50 (fun a D M v e1 e2 => by cases e1; exact e2.symm) (sm_noleaf_ok) rfl (e.symm.trans h) rfl
noncomputable def lf50_0 (D : sm_D) : Nat → List Value → List Value → sm_D → sm_M → Option (sm_S) := fun pc ls st D' M =>
  if pc = 91 then (match ls, st with
    | [.ref 1, .int bl1, gl2], [] => (jR_lambda_91 bl1 D' M)
    | _, _ => none)
  else none
theorem ll50_0 (D : sm_D) {R : sm_S} : ∀ (pc : Nat) (ls st : List Value) (D' : sm_D) (M : sm_M) (v : sm_S), (lf50_0 D) pc ls st D' M = some v → (fun v => v = R) v → sm_WJ smT smCl smSa shM f50 1 pc ls st D' M R := by
  intro pc ls st D' M v h hv
  unfold lf50_0 at h
  by_cases hp0 : pc = 91
  · subst hp0
    rw [if_pos (show (91 : Nat) = 91 from rfl)] at h
    split at h
    · skip
      have hv : v = R := hv
      subst hv
      exact w50_91  h
    · cases h
  · rw [if_neg hp0] at h
    cases h
set_option maxRecDepth 20000 in
set_option maxHeartbeats 4000000 in
theorem we50 {l1 : Int32} {D : sm_D} {M : sm_M} {R : sm_S} (h : jR_lambda l1 D M = some R) : sm_WJ smT smCl smSa shM f50 1 0 [.ref 1, .int l1, .retAddr 0] [] D M R := by
  have e : jR_lambda l1 D M = (sm_run shM smSa cal50 c50 false (fun a D M => some (a, D, M)) (lf50_0 D) 70 (c50.drop 0) [.ref 1, .int l1, .retAddr 0] [] D M : Option (sm_S)) := rfl
  exact sm_blk (ρ := sm_S) (gd := (fun v => v = R)) (kx := 50) (i := 0) smVM rfl (by decide) ck50 (fun a D M v e1 e2 => by cases e1; exact e2.symm) (ll50_0 D) rfl (e.symm.trans h) rfl
theorem m50 {l1 : Int32} {D : sm_D} {M : sm_M} {R : sm_S} (h : jR_lambda l1 D M = some R) : sm_MJ smT smCl smSa shM f50 1 [.ref 1, .int l1] D M R :=
  sm_met (by decide) (Nat.le_of_ble_eq_true rfl) (List.all_eq_true.mp rfl) (we50  h)

-- jR_write
noncomputable def cal51  : sm_Cal := fun x as D M =>
  if x = 40 then (match as with
    | [.ref 1, .int a1, .int a2, .int a3, .int a4] => (jR_emit a1 a2 a3 a4 D M)
    | _ => none)
  else if x = 45 then (match as with
    | [.ref 1, .int a1] => (jR_finish a1 D M)
    | _ => none)
  else if x = 49 then (match as with
    | [.ref 1, .int a1] => (jR_variable a1 D M)
    | _ => none)
  else if x = 44 then (match as with
    | [.ref 1, .int a1, .int a2, .int a3] => (jR_doLater a1 a2 a3 D M)
    | _ => none)
  else if x = 50 then (match as with
    | [.ref 1, .int a1] => (jR_lambda a1 D M)
    | _ => none)
  else none
theorem ck51  : sm_CalOk smT smCl smP smSa shM 2 cal51 := by
  intro x g as D M R hx h
  unfold cal51 at h
  by_cases hx' : x = 40
  · subst hx'
    rw [if_pos (show (40 : Nat) = 40 from rfl)] at h
    cases (show smP[40]? = some f40 from rfl).symm.trans hx
    split at h
    · skip
      exact Or.inl ⟨0, by omega, m40   h⟩
    · cases h
  · rw [if_neg hx'] at h
    by_cases hx' : x = 45
    · subst hx'
      rw [if_pos (show (45 : Nat) = 45 from rfl)] at h
      cases (show smP[45]? = some f45 from rfl).symm.trans hx
      split at h
      · skip
        exact Or.inl ⟨0, by omega, m45   h⟩
      · cases h
    · rw [if_neg hx'] at h
      by_cases hx' : x = 49
      · subst hx'
        rw [if_pos (show (49 : Nat) = 49 from rfl)] at h
        cases (show smP[49]? = some f49 from rfl).symm.trans hx
        split at h
        · skip
          exact Or.inl ⟨1, by omega, m49   h⟩
        · cases h
      · rw [if_neg hx'] at h
        by_cases hx' : x = 44
        · subst hx'
          rw [if_pos (show (44 : Nat) = 44 from rfl)] at h
          cases (show smP[44]? = some f44 from rfl).symm.trans hx
          split at h
          · skip
            exact Or.inl ⟨0, by omega, m44   h⟩
          · cases h
        · rw [if_neg hx'] at h
          by_cases hx' : x = 50
          · subst hx'
            rw [if_pos (show (50 : Nat) = 50 from rfl)] at h
            cases (show smP[50]? = some f50 from rfl).symm.trans hx
            split at h
            · skip
              exact Or.inl ⟨1, by omega, m50   h⟩
            · cases h
          · rw [if_neg hx'] at h
            cases h
set_option maxRecDepth 20000 in
set_option maxHeartbeats 4000000 in
theorem w51_190 {l1 : Int32} {D : sm_D} {M : sm_M} {R : sm_S} (h : jR_write_190 l1 D M = some R) : sm_WJ smT smCl smSa shM f51 2 190 [.ref 1, .int l1] [] D M R := by
  have e : jR_write_190 l1 D M = (sm_run shM smSa cal51 c51 false (fun a D M => some (a, D, M)) sm_noleaf 97 (c51.drop 83) [.ref 1, .int l1] [] D M : Option (sm_S)) := rfl
  exact sm_blk (ρ := sm_S) (gd := (fun v => v = R)) (kx := 51) (i := 83) smVM rfl (by decide) ck51 (fun a D M v e1 e2 => by cases e1; exact e2.symm) (sm_noleaf_ok) rfl (e.symm.trans h) rfl
noncomputable def lf51_110 (D : sm_D) : Nat → List Value → List Value → sm_D → sm_M → Option (sm_S) := fun pc ls st D' M =>
  if pc = 190 then (match ls, st with
    | [.ref 1, .int bl1], [] => (jR_write_190 bl1 D' M)
    | _, _ => none)
  else none
theorem ll51_110 (D : sm_D) {R : sm_S} : ∀ (pc : Nat) (ls st : List Value) (D' : sm_D) (M : sm_M) (v : sm_S), (lf51_110 D) pc ls st D' M = some v → (fun v => v = R) v → sm_WJ smT smCl smSa shM f51 2 pc ls st D' M R := by
  intro pc ls st D' M v h hv
  unfold lf51_110 at h
  by_cases hp0 : pc = 190
  · subst hp0
    rw [if_pos (show (190 : Nat) = 190 from rfl)] at h
    split at h
    · skip
      have hv : v = R := hv
      subst hv
      exact w51_190  h
    · cases h
  · rw [if_neg hp0] at h
    cases h
set_option maxRecDepth 20000 in
set_option maxHeartbeats 4000000 in
theorem w51_110 {l1 : Int32} {D : sm_D} {M : sm_M} {R : sm_S} (h : jR_write_110 l1 D M = some R) : sm_WJ smT smCl smSa shM f51 2 110 [.ref 1, .int l1] [] D M R := by
  have e : jR_write_110 l1 D M = (sm_run shM smSa cal51 c51 false (fun a D M => some (a, D, M)) (lf51_110 D) 97 (c51.drop 35) [.ref 1, .int l1] [] D M : Option (sm_S)) := rfl
  exact sm_blk (ρ := sm_S) (gd := (fun v => v = R)) (kx := 51) (i := 35) smVM rfl (by decide) ck51 (fun a D M v e1 e2 => by cases e1; exact e2.symm) (ll51_110 D) rfl (e.symm.trans h) rfl
noncomputable def lf51_161 (D : sm_D) : Nat → List Value → List Value → sm_D → sm_M → Option (sm_S) := fun pc ls st D' M =>
  if pc = 190 then (match ls, st with
    | [.ref 1, .int bl1], [] => (jR_write_190 bl1 D' M)
    | _, _ => none)
  else none
theorem ll51_161 (D : sm_D) {R : sm_S} : ∀ (pc : Nat) (ls st : List Value) (D' : sm_D) (M : sm_M) (v : sm_S), (lf51_161 D) pc ls st D' M = some v → (fun v => v = R) v → sm_WJ smT smCl smSa shM f51 2 pc ls st D' M R := by
  intro pc ls st D' M v h hv
  unfold lf51_161 at h
  by_cases hp0 : pc = 190
  · subst hp0
    rw [if_pos (show (190 : Nat) = 190 from rfl)] at h
    split at h
    · skip
      have hv : v = R := hv
      subst hv
      exact w51_190  h
    · cases h
  · rw [if_neg hp0] at h
    cases h
set_option maxRecDepth 20000 in
set_option maxHeartbeats 4000000 in
theorem w51_161 {l1 s1 : Int32} {D : sm_D} {M : sm_M} {R : sm_S} (h : jR_write_161 l1 s1 D M = some R) : sm_WJ smT smCl smSa shM f51 2 161 [.ref 1, .int l1] [.int s1, .ref 1] D M R := by
  have e : jR_write_161 l1 s1 D M = (sm_run shM smSa cal51 c51 false (fun a D M => some (a, D, M)) (lf51_161 D) 97 (c51.drop 64) [.ref 1, .int l1] [.int s1, .ref 1] D M : Option (sm_S)) := rfl
  exact sm_blk (ρ := sm_S) (gd := (fun v => v = R)) (kx := 51) (i := 64) smVM rfl (by decide) ck51 (fun a D M v e1 e2 => by cases e1; exact e2.symm) (ll51_161 D) rfl (e.symm.trans h) rfl
noncomputable def lf51_128 (D : sm_D) : Nat → List Value → List Value → sm_D → sm_M → Option (sm_S) := fun pc ls st D' M =>
  if pc = 161 then (match ls, st with
    | [.ref 1, .int bl1], [.int bs1, .ref 1] => (jR_write_161 bl1 bs1 D' M)
    | _, _ => none)
  else none
theorem ll51_128 (D : sm_D) {R : sm_S} : ∀ (pc : Nat) (ls st : List Value) (D' : sm_D) (M : sm_M) (v : sm_S), (lf51_128 D) pc ls st D' M = some v → (fun v => v = R) v → sm_WJ smT smCl smSa shM f51 2 pc ls st D' M R := by
  intro pc ls st D' M v h hv
  unfold lf51_128 at h
  by_cases hp0 : pc = 161
  · subst hp0
    rw [if_pos (show (161 : Nat) = 161 from rfl)] at h
    split at h
    · skip
      have hv : v = R := hv
      subst hv
      exact w51_161  h
    · cases h
  · rw [if_neg hp0] at h
    cases h
set_option maxRecDepth 20000 in
set_option maxHeartbeats 4000000 in
theorem w51_128 {l1 : Int32} {D : sm_D} {M : sm_M} {R : sm_S} (h : jR_write_128 l1 D M = some R) : sm_WJ smT smCl smSa shM f51 2 128 [.ref 1, .int l1] [] D M R := by
  have e : jR_write_128 l1 D M = (sm_run shM smSa cal51 c51 false (fun a D M => some (a, D, M)) (lf51_128 D) 97 (c51.drop 46) [.ref 1, .int l1] [] D M : Option (sm_S)) := rfl
  exact sm_blk (ρ := sm_S) (gd := (fun v => v = R)) (kx := 51) (i := 46) smVM rfl (by decide) ck51 (fun a D M v e1 e2 => by cases e1; exact e2.symm) (ll51_128 D) rfl (e.symm.trans h) rfl
noncomputable def lf51_0 (D : sm_D) : Nat → List Value → List Value → sm_D → sm_M → Option (sm_S) := fun pc ls st D' M =>
  if pc = 110 then (match ls, st with
    | [.ref 1, .int bl1], [] => (jR_write_110 bl1 D' M)
    | _, _ => none)
  else if pc = 128 then (match ls, st with
    | [.ref 1, .int bl1], [] => (jR_write_128 bl1 D' M)
    | _, _ => none)
  else if pc = 190 then (match ls, st with
    | [.ref 1, .int bl1], [] => (jR_write_190 bl1 D' M)
    | _, _ => none)
  else none
theorem ll51_0 (D : sm_D) {R : sm_S} : ∀ (pc : Nat) (ls st : List Value) (D' : sm_D) (M : sm_M) (v : sm_S), (lf51_0 D) pc ls st D' M = some v → (fun v => v = R) v → sm_WJ smT smCl smSa shM f51 2 pc ls st D' M R := by
  intro pc ls st D' M v h hv
  unfold lf51_0 at h
  by_cases hp0 : pc = 110
  · subst hp0
    rw [if_pos (show (110 : Nat) = 110 from rfl)] at h
    split at h
    · skip
      have hv : v = R := hv
      subst hv
      exact w51_110  h
    · cases h
  · rw [if_neg hp0] at h
    by_cases hp0 : pc = 128
    · subst hp0
      rw [if_pos (show (128 : Nat) = 128 from rfl)] at h
      split at h
      · skip
        have hv : v = R := hv
        subst hv
        exact w51_128  h
      · cases h
    · rw [if_neg hp0] at h
      by_cases hp0 : pc = 190
      · subst hp0
        rw [if_pos (show (190 : Nat) = 190 from rfl)] at h
        split at h
        · skip
          have hv : v = R := hv
          subst hv
          exact w51_190  h
        · cases h
      · rw [if_neg hp0] at h
        cases h
set_option maxRecDepth 20000 in
set_option maxHeartbeats 4000000 in
theorem we51 {l1 : Int32} {D : sm_D} {M : sm_M} {R : sm_S} (h : jR_write l1 D M = some R) : sm_WJ smT smCl smSa shM f51 2 0 [.ref 1, .int l1] [] D M R := by
  have e : jR_write l1 D M = (sm_run shM smSa cal51 c51 false (fun a D M => some (a, D, M)) (lf51_0 D) 97 (c51.drop 0) [.ref 1, .int l1] [] D M : Option (sm_S)) := rfl
  exact sm_blk (ρ := sm_S) (gd := (fun v => v = R)) (kx := 51) (i := 0) smVM rfl (by decide) ck51 (fun a D M v e1 e2 => by cases e1; exact e2.symm) (ll51_0 D) rfl (e.symm.trans h) rfl
theorem m51 {l1 : Int32} {D : sm_D} {M : sm_M} {R : sm_S} (h : jR_write l1 D M = some R) : sm_MJ smT smCl smSa shM f51 2 [.ref 1, .int l1] D M R :=
  sm_met (by decide) (Nat.le_of_ble_eq_true rfl) (List.all_eq_true.mp rfl) (we51  h)

-- jR_call
noncomputable def cal52  : sm_Cal := fun x as D M =>
  if x = 46 then (match as with
    | [.ref 1] => (jR_doneLast D M)
    | _ => none)
  else if x = 41 then (match as with
    | [.ref 1] => (jR_name D M)
    | _ => none)
  else if x = 40 then (match as with
    | [.ref 1, .int a1, .int a2, .int a3, .int a4] => (jR_emit a1 a2 a3 a4 D M)
    | _ => none)
  else if x = 18 then (match as with
    | [.ref 1, .int a1, .int a2, .int a3, .int a4] => (jR_find a1 a2 a3 a4 D M)
    | _ => none)
  else if x = 42 then (match as with
    | [.ref 1, .int a1, .int a2, .int a3, .int a4] => (jR_beginBlock a1 a2 a3 a4 D M)
    | _ => none)
  else if x = 45 then (match as with
    | [.ref 1, .int a1] => (jR_finish a1 D M)
    | _ => none)
  else none
theorem ck52  : sm_CalOk smT smCl smP smSa shM 2 cal52 := by
  intro x g as D M R hx h
  unfold cal52 at h
  by_cases hx' : x = 46
  · subst hx'
    rw [if_pos (show (46 : Nat) = 46 from rfl)] at h
    cases (show smP[46]? = some f46 from rfl).symm.trans hx
    split at h
    · skip
      exact Or.inl ⟨0, by omega, m46   h⟩
    · cases h
  · rw [if_neg hx'] at h
    by_cases hx' : x = 41
    · subst hx'
      rw [if_pos (show (41 : Nat) = 41 from rfl)] at h
      cases (show smP[41]? = some f41 from rfl).symm.trans hx
      split at h
      · skip
        exact Or.inl ⟨0, by omega, m41   h⟩
      · cases h
    · rw [if_neg hx'] at h
      by_cases hx' : x = 40
      · subst hx'
        rw [if_pos (show (40 : Nat) = 40 from rfl)] at h
        cases (show smP[40]? = some f40 from rfl).symm.trans hx
        split at h
        · skip
          exact Or.inl ⟨0, by omega, m40   h⟩
        · cases h
      · rw [if_neg hx'] at h
        by_cases hx' : x = 18
        · subst hx'
          rw [if_pos (show (18 : Nat) = 18 from rfl)] at h
          cases (show smP[18]? = some f18 from rfl).symm.trans hx
          split at h
          · skip
            exact Or.inl ⟨1, by omega, m18   h⟩
          · cases h
        · rw [if_neg hx'] at h
          by_cases hx' : x = 42
          · subst hx'
            rw [if_pos (show (42 : Nat) = 42 from rfl)] at h
            cases (show smP[42]? = some f42 from rfl).symm.trans hx
            split at h
            · skip
              exact Or.inl ⟨0, by omega, m42   h⟩
            · cases h
          · rw [if_neg hx'] at h
            by_cases hx' : x = 45
            · subst hx'
              rw [if_pos (show (45 : Nat) = 45 from rfl)] at h
              cases (show smP[45]? = some f45 from rfl).symm.trans hx
              split at h
              · skip
                exact Or.inl ⟨0, by omega, m45   h⟩
              · cases h
            · rw [if_neg hx'] at h
              cases h
set_option maxRecDepth 20000 in
set_option maxHeartbeats 4000000 in
theorem w52_128 {l1 : Int32} {g2 : Value} {D : sm_D} {M : sm_M} {R : sm_S} (h : jR_call_128 l1 D M = some R) : sm_WJ smT smCl smSa shM f52 2 128 [.ref 1, .int l1, g2] [] D M R := by
  have e : jR_call_128 l1 D M = (sm_run shM smSa cal52 c52 false (fun a D M => some (a, D, M)) sm_noleaf 91 (c52.drop 82) [.ref 1, .int l1, g2] [] D M : Option (sm_S)) := rfl
  exact sm_blk (ρ := sm_S) (gd := (fun v => v = R)) (kx := 52) (i := 82) smVM rfl (by decide) ck52 (fun a D M v e1 e2 => by cases e1; exact e2.symm) (sm_noleaf_ok) rfl (e.symm.trans h) rfl
noncomputable def lf52_0 (D : sm_D) : Nat → List Value → List Value → sm_D → sm_M → Option (sm_S) := fun pc ls st D' M =>
  if pc = 128 then (match ls, st with
    | [.ref 1, .int bl1, gl2], [] => (jR_call_128 bl1 D' M)
    | _, _ => none)
  else none
theorem ll52_0 (D : sm_D) {R : sm_S} : ∀ (pc : Nat) (ls st : List Value) (D' : sm_D) (M : sm_M) (v : sm_S), (lf52_0 D) pc ls st D' M = some v → (fun v => v = R) v → sm_WJ smT smCl smSa shM f52 2 pc ls st D' M R := by
  intro pc ls st D' M v h hv
  unfold lf52_0 at h
  by_cases hp0 : pc = 128
  · subst hp0
    rw [if_pos (show (128 : Nat) = 128 from rfl)] at h
    split at h
    · skip
      have hv : v = R := hv
      subst hv
      exact w52_128  h
    · cases h
  · rw [if_neg hp0] at h
    cases h
set_option maxRecDepth 20000 in
set_option maxHeartbeats 4000000 in
theorem we52 {D : sm_D} {M : sm_M} {R : sm_S} (h : jR_call D M = some R) : sm_WJ smT smCl smSa shM f52 2 0 [.ref 1, .retAddr 0, .retAddr 0] [] D M R := by
  have e : jR_call D M = (sm_run shM smSa cal52 c52 false (fun a D M => some (a, D, M)) (lf52_0 D) 91 (c52.drop 0) [.ref 1, .retAddr 0, .retAddr 0] [] D M : Option (sm_S)) := rfl
  exact sm_blk (ρ := sm_S) (gd := (fun v => v = R)) (kx := 52) (i := 0) smVM rfl (by decide) ck52 (fun a D M v e1 e2 => by cases e1; exact e2.symm) (ll52_0 D) rfl (e.symm.trans h) rfl
theorem m52 {D : sm_D} {M : sm_M} {R : sm_S} (h : jR_call D M = some R) : sm_MJ smT smCl smSa shM f52 2 [.ref 1] D M R :=
  sm_met (by decide) (Nat.le_of_ble_eq_true rfl) (List.all_eq_true.mp rfl) (we52  h)

-- jR_choose
noncomputable def cal53  : sm_Cal := fun x as D M =>
  if x = 46 then (match as with
    | [.ref 1] => (jR_doneLast D M)
    | _ => none)
  else if x = 41 then (match as with
    | [.ref 1] => (jR_name D M)
    | _ => none)
  else if x = 40 then (match as with
    | [.ref 1, .int a1, .int a2, .int a3, .int a4] => (jR_emit a1 a2 a3 a4 D M)
    | _ => none)
  else if x = 44 then (match as with
    | [.ref 1, .int a1, .int a2, .int a3] => (jR_doLater a1 a2 a3 D M)
    | _ => none)
  else none
theorem ck53  : sm_CalOk smT smCl smP smSa shM 1 cal53 := by
  intro x g as D M R hx h
  unfold cal53 at h
  by_cases hx' : x = 46
  · subst hx'
    rw [if_pos (show (46 : Nat) = 46 from rfl)] at h
    cases (show smP[46]? = some f46 from rfl).symm.trans hx
    split at h
    · skip
      exact Or.inl ⟨0, by omega, m46   h⟩
    · cases h
  · rw [if_neg hx'] at h
    by_cases hx' : x = 41
    · subst hx'
      rw [if_pos (show (41 : Nat) = 41 from rfl)] at h
      cases (show smP[41]? = some f41 from rfl).symm.trans hx
      split at h
      · skip
        exact Or.inl ⟨0, by omega, m41   h⟩
      · cases h
    · rw [if_neg hx'] at h
      by_cases hx' : x = 40
      · subst hx'
        rw [if_pos (show (40 : Nat) = 40 from rfl)] at h
        cases (show smP[40]? = some f40 from rfl).symm.trans hx
        split at h
        · skip
          exact Or.inl ⟨0, by omega, m40   h⟩
        · cases h
      · rw [if_neg hx'] at h
        by_cases hx' : x = 44
        · subst hx'
          rw [if_pos (show (44 : Nat) = 44 from rfl)] at h
          cases (show smP[44]? = some f44 from rfl).symm.trans hx
          split at h
          · skip
            exact Or.inl ⟨0, by omega, m44   h⟩
          · cases h
        · rw [if_neg hx'] at h
          cases h
set_option maxRecDepth 20000 in
set_option maxHeartbeats 4000000 in
theorem we53 {l1 : Int32} {D : sm_D} {M : sm_M} {R : sm_S} (h : jR_choose l1 D M = some R) : sm_WJ smT smCl smSa shM f53 1 0 [.ref 1, .int l1, .retAddr 0, .retAddr 0] [] D M R := by
  have e : jR_choose l1 D M = (sm_run shM smSa cal53 c53 false (fun a D M => some (a, D, M)) sm_noleaf 47 (c53.drop 0) [.ref 1, .int l1, .retAddr 0, .retAddr 0] [] D M : Option (sm_S)) := rfl
  exact sm_blk (ρ := sm_S) (gd := (fun v => v = R)) (kx := 53) (i := 0) smVM rfl (by decide) ck53 (fun a D M v e1 e2 => by cases e1; exact e2.symm) (sm_noleaf_ok) rfl (e.symm.trans h) rfl
theorem m53 {l1 : Int32} {D : sm_D} {M : sm_M} {R : sm_S} (h : jR_choose l1 D M = some R) : sm_MJ smT smCl smSa shM f53 1 [.ref 1, .int l1] D M R :=
  sm_met (by decide) (Nat.le_of_ble_eq_true rfl) (List.all_eq_true.mp rfl) (we53  h)

-- jR_doNext
noncomputable def cal54  : sm_Cal := fun x as D M =>
  if x = 51 then (match as with
    | [.ref 1, .int a1] => (jR_write a1 D M)
    | _ => none)
  else if x = 47 then (match as with
    | [.ref 1, .int a1] => (jR_push a1 D M)
    | _ => none)
  else if x = 46 then (match as with
    | [.ref 1] => (jR_doneLast D M)
    | _ => none)
  else if x = 40 then (match as with
    | [.ref 1, .int a1, .int a2, .int a3, .int a4] => (jR_emit a1 a2 a3 a4 D M)
    | _ => none)
  else if x = 48 then (match as with
    | [.ref 1] => (jR_pop D M)
    | _ => none)
  else if x = 45 then (match as with
    | [.ref 1, .int a1] => (jR_finish a1 D M)
    | _ => none)
  else if x = 18 then (match as with
    | [.ref 1, .int a1, .int a2, .int a3, .int a4] => (jR_find a1 a2 a3 a4 D M)
    | _ => none)
  else if x = 53 then (match as with
    | [.ref 1, .int a1] => (jR_choose a1 D M)
    | _ => none)
  else if x = 42 then (match as with
    | [.ref 1, .int a1, .int a2, .int a3, .int a4] => (jR_beginBlock a1 a2 a3 a4 D M)
    | _ => none)
  else if x = 52 then (match as with
    | [.ref 1] => (jR_call D M)
    | _ => none)
  else none
theorem ck54  : sm_CalOk smT smCl smP smSa shM 4 cal54 := by
  intro x g as D M R hx h
  unfold cal54 at h
  by_cases hx' : x = 51
  · subst hx'
    rw [if_pos (show (51 : Nat) = 51 from rfl)] at h
    cases (show smP[51]? = some f51 from rfl).symm.trans hx
    split at h
    · skip
      exact Or.inl ⟨2, by omega, m51   h⟩
    · cases h
  · rw [if_neg hx'] at h
    by_cases hx' : x = 47
    · subst hx'
      rw [if_pos (show (47 : Nat) = 47 from rfl)] at h
      cases (show smP[47]? = some f47 from rfl).symm.trans hx
      split at h
      · skip
        exact Or.inl ⟨3, by omega, m47   h⟩
      · cases h
    · rw [if_neg hx'] at h
      by_cases hx' : x = 46
      · subst hx'
        rw [if_pos (show (46 : Nat) = 46 from rfl)] at h
        cases (show smP[46]? = some f46 from rfl).symm.trans hx
        split at h
        · skip
          exact Or.inl ⟨0, by omega, m46   h⟩
        · cases h
      · rw [if_neg hx'] at h
        by_cases hx' : x = 40
        · subst hx'
          rw [if_pos (show (40 : Nat) = 40 from rfl)] at h
          cases (show smP[40]? = some f40 from rfl).symm.trans hx
          split at h
          · skip
            exact Or.inl ⟨0, by omega, m40   h⟩
          · cases h
        · rw [if_neg hx'] at h
          by_cases hx' : x = 48
          · subst hx'
            rw [if_pos (show (48 : Nat) = 48 from rfl)] at h
            cases (show smP[48]? = some f48 from rfl).symm.trans hx
            split at h
            · skip
              exact Or.inl ⟨1, by omega, m48   h⟩
            · cases h
          · rw [if_neg hx'] at h
            by_cases hx' : x = 45
            · subst hx'
              rw [if_pos (show (45 : Nat) = 45 from rfl)] at h
              cases (show smP[45]? = some f45 from rfl).symm.trans hx
              split at h
              · skip
                exact Or.inl ⟨0, by omega, m45   h⟩
              · cases h
            · rw [if_neg hx'] at h
              by_cases hx' : x = 18
              · subst hx'
                rw [if_pos (show (18 : Nat) = 18 from rfl)] at h
                cases (show smP[18]? = some f18 from rfl).symm.trans hx
                split at h
                · skip
                  exact Or.inl ⟨1, by omega, m18   h⟩
                · cases h
              · rw [if_neg hx'] at h
                by_cases hx' : x = 53
                · subst hx'
                  rw [if_pos (show (53 : Nat) = 53 from rfl)] at h
                  cases (show smP[53]? = some f53 from rfl).symm.trans hx
                  split at h
                  · skip
                    exact Or.inl ⟨1, by omega, m53   h⟩
                  · cases h
                · rw [if_neg hx'] at h
                  by_cases hx' : x = 42
                  · subst hx'
                    rw [if_pos (show (42 : Nat) = 42 from rfl)] at h
                    cases (show smP[42]? = some f42 from rfl).symm.trans hx
                    split at h
                    · skip
                      exact Or.inl ⟨0, by omega, m42   h⟩
                    · cases h
                  · rw [if_neg hx'] at h
                    by_cases hx' : x = 52
                    · subst hx'
                      rw [if_pos (show (52 : Nat) = 52 from rfl)] at h
                      cases (show smP[52]? = some f52 from rfl).symm.trans hx
                      split at h
                      · skip
                        exact Or.inl ⟨2, by omega, m52   h⟩
                      · cases h
                    · rw [if_neg hx'] at h
                      cases h
set_option maxRecDepth 20000 in
set_option maxHeartbeats 4000000 in
theorem w54_323 {g0 g1 g2 g3 g4 g5 : Value} {D : sm_D} {M : sm_M} {R : sm_S} (h : jR_doNext_323 D M = some R) : sm_WJ smT smCl smSa shM f54 4 323 [g0, g1, g2, g3, g4, g5] [] D M R := by
  have e : jR_doNext_323 D M = (sm_run shM smSa cal54 c54 false (fun a D M => some (a, D, M)) sm_noleaf 169 (c54.drop 163) [g0, g1, g2, g3, g4, g5] [] D M : Option (sm_S)) := rfl
  exact sm_blk (ρ := sm_S) (gd := (fun v => v = R)) (kx := 54) (i := 163) smVM rfl (by decide) ck54 (fun a D M v e1 e2 => by cases e1; exact e2.symm) (sm_noleaf_ok) rfl (e.symm.trans h) rfl
noncomputable def lf54_215 (D : sm_D) : Nat → List Value → List Value → sm_D → sm_M → Option (sm_S) := fun pc ls st D' M =>
  if pc = 323 then (match ls, st with
    | [gl0, gl1, gl2, gl3, gl4, gl5], [] => (jR_doNext_323 D' M)
    | _, _ => none)
  else none
theorem ll54_215 (D : sm_D) {R : sm_S} : ∀ (pc : Nat) (ls st : List Value) (D' : sm_D) (M : sm_M) (v : sm_S), (lf54_215 D) pc ls st D' M = some v → (fun v => v = R) v → sm_WJ smT smCl smSa shM f54 4 pc ls st D' M R := by
  intro pc ls st D' M v h hv
  unfold lf54_215 at h
  by_cases hp0 : pc = 323
  · subst hp0
    rw [if_pos (show (323 : Nat) = 323 from rfl)] at h
    split at h
    · skip
      have hv : v = R := hv
      subst hv
      exact w54_323  h
    · cases h
  · rw [if_neg hp0] at h
    cases h
set_option maxRecDepth 20000 in
set_option maxHeartbeats 4000000 in
theorem w54_215 {s1 : Int32} {g0 g1 g2 g3 g4 g5 : Value} {D : sm_D} {M : sm_M} {R : sm_S} (h : jR_doNext_215 s1 D M = some R) : sm_WJ smT smCl smSa shM f54 4 215 [g0, g1, g2, g3, g4, g5] [.int s1, .ref 1] D M R := by
  have e : jR_doNext_215 s1 D M = (sm_run shM smSa cal54 c54 false (fun a D M => some (a, D, M)) (lf54_215 D) 169 (c54.drop 103) [g0, g1, g2, g3, g4, g5] [.int s1, .ref 1] D M : Option (sm_S)) := rfl
  exact sm_blk (ρ := sm_S) (gd := (fun v => v = R)) (kx := 54) (i := 103) smVM rfl (by decide) ck54 (fun a D M v e1 e2 => by cases e1; exact e2.symm) (ll54_215 D) rfl (e.symm.trans h) rfl
noncomputable def lf54_0 (D : sm_D) : Nat → List Value → List Value → sm_D → sm_M → Option (sm_S) := fun pc ls st D' M =>
  if pc = 215 then (match ls, st with
    | [gl0, gl1, gl2, gl3, gl4, gl5], [.int bs1, .ref 1] => (jR_doNext_215 bs1 D' M)
    | _, _ => none)
  else if pc = 323 then (match ls, st with
    | [gl0, gl1, gl2, gl3, gl4, gl5], [] => (jR_doNext_323 D' M)
    | _, _ => none)
  else none
theorem ll54_0 (D : sm_D) {R : sm_S} : ∀ (pc : Nat) (ls st : List Value) (D' : sm_D) (M : sm_M) (v : sm_S), (lf54_0 D) pc ls st D' M = some v → (fun v => v = R) v → sm_WJ smT smCl smSa shM f54 4 pc ls st D' M R := by
  intro pc ls st D' M v h hv
  unfold lf54_0 at h
  by_cases hp0 : pc = 215
  · subst hp0
    rw [if_pos (show (215 : Nat) = 215 from rfl)] at h
    split at h
    · skip
      have hv : v = R := hv
      subst hv
      exact w54_215  h
    · cases h
  · rw [if_neg hp0] at h
    by_cases hp0 : pc = 323
    · subst hp0
      rw [if_pos (show (323 : Nat) = 323 from rfl)] at h
      split at h
      · skip
        have hv : v = R := hv
        subst hv
        exact w54_323  h
      · cases h
    · rw [if_neg hp0] at h
      cases h
set_option maxRecDepth 20000 in
set_option maxHeartbeats 4000000 in
theorem we54 {D : sm_D} {M : sm_M} {R : sm_S} (h : jR_doNext D M = some R) : sm_WJ smT smCl smSa shM f54 4 0 [.ref 1, .retAddr 0, .retAddr 0, .retAddr 0, .retAddr 0, .retAddr 0] [] D M R := by
  have e : jR_doNext D M = (sm_run shM smSa cal54 c54 false (fun a D M => some (a, D, M)) (lf54_0 D) 169 (c54.drop 0) [.ref 1, .retAddr 0, .retAddr 0, .retAddr 0, .retAddr 0, .retAddr 0] [] D M : Option (sm_S)) := rfl
  exact sm_blk (ρ := sm_S) (gd := (fun v => v = R)) (kx := 54) (i := 0) smVM rfl (by decide) ck54 (fun a D M v e1 e2 => by cases e1; exact e2.symm) (ll54_0 D) rfl (e.symm.trans h) rfl
theorem m54 {D : sm_D} {M : sm_M} {R : sm_S} (h : jR_doNext D M = some R) : sm_MJ smT smCl smSa shM f54 4 [.ref 1] D M R :=
  sm_met (by decide) (Nat.le_of_ble_eq_true rfl) (List.all_eq_true.mp rfl) (we54  h)

-- jR_writeAll
noncomputable def cal55  : sm_Cal := fun x as D M =>
  if x = 44 then (match as with
    | [.ref 1, .int a1, .int a2, .int a3] => (jR_doLater a1 a2 a3 D M)
    | _ => none)
  else if x = 54 then (match as with
    | [.ref 1] => (jR_doNext D M)
    | _ => none)
  else none
theorem ck55  : sm_CalOk smT smCl smP smSa shM 5 cal55 := by
  intro x g as D M R hx h
  unfold cal55 at h
  by_cases hx' : x = 44
  · subst hx'
    rw [if_pos (show (44 : Nat) = 44 from rfl)] at h
    cases (show smP[44]? = some f44 from rfl).symm.trans hx
    split at h
    · skip
      exact Or.inl ⟨0, by omega, m44   h⟩
    · cases h
  · rw [if_neg hx'] at h
    by_cases hx' : x = 54
    · subst hx'
      rw [if_pos (show (54 : Nat) = 54 from rfl)] at h
      cases (show smP[54]? = some f54 from rfl).symm.trans hx
      split at h
      · skip
        exact Or.inl ⟨4, by omega, m54   h⟩
      · cases h
    · rw [if_neg hx'] at h
      cases h
set_option maxRecDepth 20000 in
set_option maxHeartbeats 4000000 in
theorem w55_33 {g0 g1 : Value} {D : sm_D} {M : sm_M} {R : sm_S} (h : jR_writeAll_33 D M = some R) : sm_WJ smT smCl smSa shM f55 5 33 [g0, g1] [] D M R := by
  have e : jR_writeAll_33 D M = (sm_run shM smSa cal55 c55 false (fun a D M => some (a, D, M)) sm_noleaf 23 (c55.drop 17) [g0, g1] [] D M : Option (sm_S)) := rfl
  exact sm_blk (ρ := sm_S) (gd := (fun v => v = R)) (kx := 55) (i := 17) smVM rfl (by decide) ck55 (fun a D M v e1 e2 => by cases e1; exact e2.symm) (sm_noleaf_ok) rfl (e.symm.trans h) rfl
def lh55_12 (D : sm_D) (R : sm_S) (s : sm_M) : Prop := ∀ (g1 : Value), sm_WJ smT smCl smSa shM f55 5 12 [.ref 1, g1] [] D (s) R
def gd55_12 (D : sm_D) (R : sm_S) (v : (sm_M) ⊕ sm_S) : Prop := match v with
  | .inl s => lh55_12 D R s
  | .inr r => r = R
noncomputable def lf55_12 (D : sm_D) : Nat → List Value → List Value → sm_D → sm_M → Option ((sm_M) ⊕ sm_S) := fun pc ls st D' M =>
  if pc = 12 then (match ls, st with
    | [.ref 1, gl1], [] => (sm_dq D' D (some (.inl (M))))
    | _, _ => none)
  else if pc = 33 then (match ls, st with
    | [gl0, gl1], [] => (sm_inr (jR_writeAll_33 D' M))
    | _, _ => none)
  else none
theorem ll55_12 (D : sm_D) {R : sm_S} : ∀ (pc : Nat) (ls st : List Value) (D' : sm_D) (M : sm_M) (v : (sm_M) ⊕ sm_S), (lf55_12 D) pc ls st D' M = some v → (gd55_12 D R) v → sm_WJ smT smCl smSa shM f55 5 pc ls st D' M R := by
  intro pc ls st D' M v h hv
  unfold lf55_12 at h
  by_cases hp0 : pc = 12
  · subst hp0
    rw [if_pos (show (12 : Nat) = 12 from rfl)] at h
    split at h
    · skip
      replace h := sm_dq_inv h
      obtain ⟨he, h⟩ := h
      subst he
      cases h
      exact hv _
    · cases h
  · rw [if_neg hp0] at h
    by_cases hp0 : pc = 33
    · subst hp0
      rw [if_pos (show (33 : Nat) = 33 from rfl)] at h
      split at h
      · skip
        replace h := sm_inr_inv h
        obtain ⟨r, h, he⟩ := h
        subst he
        have hv : r = R := hv
        subst hv
        exact w55_33  h
      · cases h
    · rw [if_neg hp0] at h
      cases h
set_option maxRecDepth 20000 in
set_option maxHeartbeats 4000000 in
theorem wc55_12 (D : sm_D) {g1 : Value} {M : sm_M} {R : sm_S} {v : (sm_M) ⊕ sm_S} (h : jR_writeAll_12_c D M = some v) (hv : (gd55_12 D R) v) : sm_WJ smT smCl smSa shM f55 5 12 [.ref 1, g1] [] D M R := by
  have e : jR_writeAll_12_c D M = (sm_run shM smSa cal55 c55 false (fun a D M => some (.inr (a, D, M))) (lf55_12 D) 23 (c55.drop 8) [.ref 1, g1] [] D M : Option ((sm_M) ⊕ sm_S)) := rfl
  exact sm_blk (ρ := (sm_M) ⊕ sm_S) (gd := (gd55_12 D R)) (kx := 55) (i := 8) smVM rfl (by decide) ck55 (fun a D M v e1 e2 => by cases e1; exact e2.symm) (ll55_12 D) rfl (e.symm.trans h) hv
theorem w55_12 {g1 : Value} {D : sm_D} {M : sm_M} {R : sm_S} (h : jR_writeAll_12 D M = some R) : sm_WJ smT smCl smSa shM f55 5 12 [.ref 1, g1] [] D M R := by
  have hh : lh55_12 D R (M) := by
    refine sm_lp_ind (b := jR_writeAll_12_b D) (r := R) (lh55_12 D R) ?_ h
    intro s v hb h1 h2
    have hv : gd55_12 D R v := by
      cases v with
      | inl s' => exact h1 s' rfl
      | inr r => exact h2 r rfl
    intro g1
    exact wc55_12 D hb hv
  exact hh _
noncomputable def lf55_0 (D : sm_D) : Nat → List Value → List Value → sm_D → sm_M → Option (sm_S) := fun pc ls st D' M =>
  if pc = 12 then (match ls, st with
    | [.ref 1, gl1], [] => (jR_writeAll_12 D' M)
    | _, _ => none)
  else none
theorem ll55_0 (D : sm_D) {R : sm_S} : ∀ (pc : Nat) (ls st : List Value) (D' : sm_D) (M : sm_M) (v : sm_S), (lf55_0 D) pc ls st D' M = some v → (fun v => v = R) v → sm_WJ smT smCl smSa shM f55 5 pc ls st D' M R := by
  intro pc ls st D' M v h hv
  unfold lf55_0 at h
  by_cases hp0 : pc = 12
  · subst hp0
    rw [if_pos (show (12 : Nat) = 12 from rfl)] at h
    split at h
    · skip
      have hv : v = R := hv
      subst hv
      exact w55_12  h
    · cases h
  · rw [if_neg hp0] at h
    cases h
set_option maxRecDepth 20000 in
set_option maxHeartbeats 4000000 in
theorem we55 {l1 : Int32} {D : sm_D} {M : sm_M} {R : sm_S} (h : jR_writeAll l1 D M = some R) : sm_WJ smT smCl smSa shM f55 5 0 [.ref 1, .int l1] [] D M R := by
  have e : jR_writeAll l1 D M = (sm_run shM smSa cal55 c55 false (fun a D M => some (a, D, M)) (lf55_0 D) 23 (c55.drop 0) [.ref 1, .int l1] [] D M : Option (sm_S)) := rfl
  exact sm_blk (ρ := sm_S) (gd := (fun v => v = R)) (kx := 55) (i := 0) smVM rfl (by decide) ck55 (fun a D M v e1 e2 => by cases e1; exact e2.symm) (ll55_0 D) rfl (e.symm.trans h) rfl
theorem m55 {l1 : Int32} {D : sm_D} {M : sm_M} {R : sm_S} (h : jR_writeAll l1 D M = some R) : sm_MJ smT smCl smSa shM f55 5 [.ref 1, .int l1] D M R :=
  sm_met (by decide) (Nat.le_of_ble_eq_true rfl) (List.all_eq_true.mp rfl) (we55  h)

-- jR_writeBody
noncomputable def cal56  : sm_Cal := fun x as D M =>
  if x = 18 then (match as with
    | [.ref 1, .int a1, .int a2, .int a3, .int a4] => (jR_find a1 a2 a3 a4 D M)
    | _ => none)
  else if x = 42 then (match as with
    | [.ref 1, .int a1, .int a2, .int a3, .int a4] => (jR_beginBlock a1 a2 a3 a4 D M)
    | _ => none)
  else if x = 40 then (match as with
    | [.ref 1, .int a1, .int a2, .int a3, .int a4] => (jR_emit a1 a2 a3 a4 D M)
    | _ => none)
  else if x = 43 then (match as with
    | [.ref 1, .int a1, .int a2] => (jR_grow a1 a2 D M)
    | _ => none)
  else if x = 45 then (match as with
    | [.ref 1, .int a1] => (jR_finish a1 D M)
    | _ => none)
  else if x = 47 then (match as with
    | [.ref 1, .int a1] => (jR_push a1 D M)
    | _ => none)
  else if x = 55 then (match as with
    | [.ref 1, .int a1] => (jR_writeAll a1 D M)
    | _ => none)
  else if x = 46 then (match as with
    | [.ref 1] => (jR_doneLast D M)
    | _ => none)
  else none
theorem ck56  : sm_CalOk smT smCl smP smSa shM 6 cal56 := by
  intro x g as D M R hx h
  unfold cal56 at h
  by_cases hx' : x = 18
  · subst hx'
    rw [if_pos (show (18 : Nat) = 18 from rfl)] at h
    cases (show smP[18]? = some f18 from rfl).symm.trans hx
    split at h
    · skip
      exact Or.inl ⟨1, by omega, m18   h⟩
    · cases h
  · rw [if_neg hx'] at h
    by_cases hx' : x = 42
    · subst hx'
      rw [if_pos (show (42 : Nat) = 42 from rfl)] at h
      cases (show smP[42]? = some f42 from rfl).symm.trans hx
      split at h
      · skip
        exact Or.inl ⟨0, by omega, m42   h⟩
      · cases h
    · rw [if_neg hx'] at h
      by_cases hx' : x = 40
      · subst hx'
        rw [if_pos (show (40 : Nat) = 40 from rfl)] at h
        cases (show smP[40]? = some f40 from rfl).symm.trans hx
        split at h
        · skip
          exact Or.inl ⟨0, by omega, m40   h⟩
        · cases h
      · rw [if_neg hx'] at h
        by_cases hx' : x = 43
        · subst hx'
          rw [if_pos (show (43 : Nat) = 43 from rfl)] at h
          cases (show smP[43]? = some f43 from rfl).symm.trans hx
          split at h
          · skip
            exact Or.inl ⟨2, by omega, m43   h⟩
          · cases h
        · rw [if_neg hx'] at h
          by_cases hx' : x = 45
          · subst hx'
            rw [if_pos (show (45 : Nat) = 45 from rfl)] at h
            cases (show smP[45]? = some f45 from rfl).symm.trans hx
            split at h
            · skip
              exact Or.inl ⟨0, by omega, m45   h⟩
            · cases h
          · rw [if_neg hx'] at h
            by_cases hx' : x = 47
            · subst hx'
              rw [if_pos (show (47 : Nat) = 47 from rfl)] at h
              cases (show smP[47]? = some f47 from rfl).symm.trans hx
              split at h
              · skip
                exact Or.inl ⟨3, by omega, m47   h⟩
              · cases h
            · rw [if_neg hx'] at h
              by_cases hx' : x = 55
              · subst hx'
                rw [if_pos (show (55 : Nat) = 55 from rfl)] at h
                cases (show smP[55]? = some f55 from rfl).symm.trans hx
                split at h
                · skip
                  exact Or.inl ⟨5, by omega, m55   h⟩
                · cases h
              · rw [if_neg hx'] at h
                by_cases hx' : x = 46
                · subst hx'
                  rw [if_pos (show (46 : Nat) = 46 from rfl)] at h
                  cases (show smP[46]? = some f46 from rfl).symm.trans hx
                  split at h
                  · skip
                    exact Or.inl ⟨0, by omega, m46   h⟩
                  · cases h
                · rw [if_neg hx'] at h
                  cases h
set_option maxRecDepth 20000 in
set_option maxHeartbeats 4000000 in
theorem we56 {l1 : Int32} {D : sm_D} {M : sm_M} {R : sm_S} (h : jR_writeBody l1 D M = some R) : sm_WJ smT smCl smSa shM f56 6 0 [.ref 1, .int l1, .retAddr 0, .retAddr 0, .retAddr 0] [] D M R := by
  have e : jR_writeBody l1 D M = (sm_run shM smSa cal56 c56 false (fun a D M => some (a, D, M)) sm_noleaf 134 (c56.drop 0) [.ref 1, .int l1, .retAddr 0, .retAddr 0, .retAddr 0] [] D M : Option (sm_S)) := rfl
  exact sm_blk (ρ := sm_S) (gd := (fun v => v = R)) (kx := 56) (i := 0) smVM rfl (by decide) ck56 (fun a D M v e1 e2 => by cases e1; exact e2.symm) (sm_noleaf_ok) rfl (e.symm.trans h) rfl
theorem m56 {l1 : Int32} {D : sm_D} {M : sm_M} {R : sm_S} (h : jR_writeBody l1 D M = some R) : sm_MJ smT smCl smSa shM f56 6 [.ref 1, .int l1] D M R :=
  sm_met (by decide) (Nat.le_of_ble_eq_true rfl) (List.all_eq_true.mp rfl) (we56  h)

-- jR_writeProgram
noncomputable def cal57  : sm_Cal := fun x as D M =>
  if x = 41 then (match as with
    | [.ref 1] => (jR_name D M)
    | _ => none)
  else if x = 42 then (match as with
    | [.ref 1, .int a1, .int a2, .int a3, .int a4] => (jR_beginBlock a1 a2 a3 a4 D M)
    | _ => none)
  else if x = 55 then (match as with
    | [.ref 1, .int a1] => (jR_writeAll a1 D M)
    | _ => none)
  else if x = 40 then (match as with
    | [.ref 1, .int a1, .int a2, .int a3, .int a4] => (jR_emit a1 a2 a3 a4 D M)
    | _ => none)
  else if x = 56 then (match as with
    | [.ref 1, .int a1] => (jR_writeBody a1 D M)
    | _ => none)
  else none
theorem ck57  : sm_CalOk smT smCl smP smSa shM 7 cal57 := by
  intro x g as D M R hx h
  unfold cal57 at h
  by_cases hx' : x = 41
  · subst hx'
    rw [if_pos (show (41 : Nat) = 41 from rfl)] at h
    cases (show smP[41]? = some f41 from rfl).symm.trans hx
    split at h
    · skip
      exact Or.inl ⟨0, by omega, m41   h⟩
    · cases h
  · rw [if_neg hx'] at h
    by_cases hx' : x = 42
    · subst hx'
      rw [if_pos (show (42 : Nat) = 42 from rfl)] at h
      cases (show smP[42]? = some f42 from rfl).symm.trans hx
      split at h
      · skip
        exact Or.inl ⟨0, by omega, m42   h⟩
      · cases h
    · rw [if_neg hx'] at h
      by_cases hx' : x = 55
      · subst hx'
        rw [if_pos (show (55 : Nat) = 55 from rfl)] at h
        cases (show smP[55]? = some f55 from rfl).symm.trans hx
        split at h
        · skip
          exact Or.inl ⟨5, by omega, m55   h⟩
        · cases h
      · rw [if_neg hx'] at h
        by_cases hx' : x = 40
        · subst hx'
          rw [if_pos (show (40 : Nat) = 40 from rfl)] at h
          cases (show smP[40]? = some f40 from rfl).symm.trans hx
          split at h
          · skip
            exact Or.inl ⟨0, by omega, m40   h⟩
          · cases h
        · rw [if_neg hx'] at h
          by_cases hx' : x = 56
          · subst hx'
            rw [if_pos (show (56 : Nat) = 56 from rfl)] at h
            cases (show smP[56]? = some f56 from rfl).symm.trans hx
            split at h
            · skip
              exact Or.inl ⟨6, by omega, m56   h⟩
            · cases h
          · rw [if_neg hx'] at h
            cases h
set_option maxRecDepth 20000 in
set_option maxHeartbeats 4000000 in
theorem w57_121 {s0 : Int32} {g0 g1 g2 : Value} {D : sm_D} {M : sm_M} {R : sm_S} (h : jR_writeProgram_121 s0 D M = some R) : sm_WJ smT smCl smSa shM f57 7 121 [g0, g1, g2] [.int s0] D M R := by
  have e : jR_writeProgram_121 s0 D M = (sm_run shM smSa cal57 c57 true (fun a D M => some (a, D, M)) sm_noleaf 78 (c57.drop 72) [g0, g1, g2] [.int s0] D M : Option (sm_S)) := rfl
  exact sm_blk (ρ := sm_S) (gd := (fun v => v = R)) (kx := 57) (i := 72) smVM rfl (by decide) ck57 (fun a D M v e1 e2 => by cases e1; exact e2.symm) (sm_noleaf_ok) rfl (e.symm.trans h) rfl
noncomputable def lf57_109 (D : sm_D) : Nat → List Value → List Value → sm_D → sm_M → Option (sm_S) := fun pc ls st D' M =>
  if pc = 121 then (match ls, st with
    | [gl0, gl1, gl2], [.int bs0] => (jR_writeProgram_121 bs0 D' M)
    | _, _ => none)
  else none
theorem ll57_109 (D : sm_D) {R : sm_S} : ∀ (pc : Nat) (ls st : List Value) (D' : sm_D) (M : sm_M) (v : sm_S), (lf57_109 D) pc ls st D' M = some v → (fun v => v = R) v → sm_WJ smT smCl smSa shM f57 7 pc ls st D' M R := by
  intro pc ls st D' M v h hv
  unfold lf57_109 at h
  by_cases hp0 : pc = 121
  · subst hp0
    rw [if_pos (show (121 : Nat) = 121 from rfl)] at h
    split at h
    · skip
      have hv : v = R := hv
      subst hv
      exact w57_121  h
    · cases h
  · rw [if_neg hp0] at h
    cases h
set_option maxRecDepth 20000 in
set_option maxHeartbeats 4000000 in
theorem w57_109 {g1 g2 : Value} {D : sm_D} {M : sm_M} {R : sm_S} (h : jR_writeProgram_109 D M = some R) : sm_WJ smT smCl smSa shM f57 7 109 [.ref 1, g1, g2] [] D M R := by
  have e : jR_writeProgram_109 D M = (sm_run shM smSa cal57 c57 true (fun a D M => some (a, D, M)) (lf57_109 D) 78 (c57.drop 66) [.ref 1, g1, g2] [] D M : Option (sm_S)) := rfl
  exact sm_blk (ρ := sm_S) (gd := (fun v => v = R)) (kx := 57) (i := 66) smVM rfl (by decide) ck57 (fun a D M v e1 e2 => by cases e1; exact e2.symm) (ll57_109 D) rfl (e.symm.trans h) rfl
def lh57_83 (D : sm_D) (R : sm_S) (s : Int32 × sm_M) : Prop := ∀ (g1 : Value), sm_WJ smT smCl smSa shM f57 7 83 [.ref 1, g1, .int (s.1)] [] D (s.2) R
def gd57_83 (D : sm_D) (R : sm_S) (v : (Int32 × sm_M) ⊕ sm_S) : Prop := match v with
  | .inl s => lh57_83 D R s
  | .inr r => r = R
noncomputable def lf57_83 (D : sm_D) : Nat → List Value → List Value → sm_D → sm_M → Option ((Int32 × sm_M) ⊕ sm_S) := fun pc ls st D' M =>
  if pc = 83 then (match ls, st with
    | [.ref 1, gl1, .int bl2], [] => (sm_dq D' D (some (.inl (bl2, M))))
    | _, _ => none)
  else if pc = 109 then (match ls, st with
    | [.ref 1, gl1, gl2], [] => (sm_inr (jR_writeProgram_109 D' M))
    | _, _ => none)
  else none
theorem ll57_83 (D : sm_D) {R : sm_S} : ∀ (pc : Nat) (ls st : List Value) (D' : sm_D) (M : sm_M) (v : (Int32 × sm_M) ⊕ sm_S), (lf57_83 D) pc ls st D' M = some v → (gd57_83 D R) v → sm_WJ smT smCl smSa shM f57 7 pc ls st D' M R := by
  intro pc ls st D' M v h hv
  unfold lf57_83 at h
  by_cases hp0 : pc = 83
  · subst hp0
    rw [if_pos (show (83 : Nat) = 83 from rfl)] at h
    split at h
    · skip
      replace h := sm_dq_inv h
      obtain ⟨he, h⟩ := h
      subst he
      cases h
      exact hv _
    · cases h
  · rw [if_neg hp0] at h
    by_cases hp0 : pc = 109
    · subst hp0
      rw [if_pos (show (109 : Nat) = 109 from rfl)] at h
      split at h
      · skip
        replace h := sm_inr_inv h
        obtain ⟨r, h, he⟩ := h
        subst he
        have hv : r = R := hv
        subst hv
        exact w57_109  h
      · cases h
    · rw [if_neg hp0] at h
      cases h
set_option maxRecDepth 20000 in
set_option maxHeartbeats 4000000 in
theorem wc57_83 (D : sm_D) {l2 : Int32} {g1 : Value} {M : sm_M} {R : sm_S} {v : (Int32 × sm_M) ⊕ sm_S} (h : jR_writeProgram_83_c l2 D M = some v) (hv : (gd57_83 D R) v) : sm_WJ smT smCl smSa shM f57 7 83 [.ref 1, g1, .int l2] [] D M R := by
  have e : jR_writeProgram_83_c l2 D M = (sm_run shM smSa cal57 c57 true (fun a D M => some (.inr (a, D, M))) (lf57_83 D) 78 (c57.drop 54) [.ref 1, g1, .int l2] [] D M : Option ((Int32 × sm_M) ⊕ sm_S)) := rfl
  exact sm_blk (ρ := (Int32 × sm_M) ⊕ sm_S) (gd := (gd57_83 D R)) (kx := 57) (i := 54) smVM rfl (by decide) ck57 (fun a D M v e1 e2 => by cases e1; exact e2.symm) (ll57_83 D) rfl (e.symm.trans h) hv
theorem w57_83 {l2 : Int32} {g1 : Value} {D : sm_D} {M : sm_M} {R : sm_S} (h : jR_writeProgram_83 l2 D M = some R) : sm_WJ smT smCl smSa shM f57 7 83 [.ref 1, g1, .int l2] [] D M R := by
  have hh : lh57_83 D R (l2, M) := by
    refine sm_lp_ind (b := jR_writeProgram_83_b D) (r := R) (lh57_83 D R) ?_ h
    intro s v hb h1 h2
    obtain ⟨z0, M1⟩ := s
    have hv : gd57_83 D R v := by
      cases v with
      | inl s' => exact h1 s' rfl
      | inr r => exact h2 r rfl
    intro g1
    exact wc57_83 D hb hv
  exact hh _
noncomputable def lf57_0 (D : sm_D) : Nat → List Value → List Value → sm_D → sm_M → Option (sm_S) := fun pc ls st D' M =>
  if pc = 83 then (match ls, st with
    | [.ref 1, gl1, .int bl2], [] => (jR_writeProgram_83 bl2 D' M)
    | _, _ => none)
  else none
theorem ll57_0 (D : sm_D) {R : sm_S} : ∀ (pc : Nat) (ls st : List Value) (D' : sm_D) (M : sm_M) (v : sm_S), (lf57_0 D) pc ls st D' M = some v → (fun v => v = R) v → sm_WJ smT smCl smSa shM f57 7 pc ls st D' M R := by
  intro pc ls st D' M v h hv
  unfold lf57_0 at h
  by_cases hp0 : pc = 83
  · subst hp0
    rw [if_pos (show (83 : Nat) = 83 from rfl)] at h
    split at h
    · skip
      have hv : v = R := hv
      subst hv
      exact w57_83  h
    · cases h
  · rw [if_neg hp0] at h
    cases h
set_option maxRecDepth 20000 in
set_option maxHeartbeats 4000000 in
theorem we57 {l1 : Int32} {D : sm_D} {M : sm_M} {R : sm_S} (h : jR_writeProgram l1 D M = some R) : sm_WJ smT smCl smSa shM f57 7 0 [.ref 1, .int l1, .retAddr 0] [] D M R := by
  have e : jR_writeProgram l1 D M = (sm_run shM smSa cal57 c57 true (fun a D M => some (a, D, M)) (lf57_0 D) 78 (c57.drop 0) [.ref 1, .int l1, .retAddr 0] [] D M : Option (sm_S)) := rfl
  exact sm_blk (ρ := sm_S) (gd := (fun v => v = R)) (kx := 57) (i := 0) smVM rfl (by decide) ck57 (fun a D M v e1 e2 => by cases e1; exact e2.symm) (ll57_0 D) rfl (e.symm.trans h) rfl
theorem m57 {l1 : Int32} {D : sm_D} {M : sm_M} {R : sm_S} (h : jR_writeProgram l1 D M = some R) : sm_MJ smT smCl smSa shM f57 7 [.ref 1, .int l1] D M R :=
  sm_met (by decide) (Nat.le_of_ble_eq_true rfl) (List.all_eq_true.mp rfl) (we57  h)

