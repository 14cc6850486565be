-- jM_reckon
noncomputable def cal144  : sm_Cal := fun x as D M =>
  if x = 142 then (match as with
    | [.ref 33, .int a1] => (jM_stop a1 D M)
    | _ => none)
  else if x = 143 then (match as with
    | [.ref 33, .int a1, .int a2, .int a3] => (jM_become a1 a2 a3 D M)
    | _ => none)
  else none
theorem ck144  : sm_CalOk smT smCl smP smSa shC 1 cal144 := by
  intro x g as D M R hx h
  unfold cal144 at h
  by_cases hx' : x = 142
  · subst hx'
    rw [if_pos (show (142 : Nat) = 142 from rfl)] at h
    cases (show smP[142]? = some f142 from rfl).symm.trans hx
    split at h
    · skip
      exact Or.inl ⟨0, by omega, m142   h⟩
    · cases h
  · rw [if_neg hx'] at h
    by_cases hx' : x = 143
    · subst hx'
      rw [if_pos (show (143 : Nat) = 143 from rfl)] at h
      cases (show smP[143]? = some f143 from rfl).symm.trans hx
      split at h
      · skip
        exact Or.inl ⟨0, by omega, m143   h⟩
      · cases h
    · rw [if_neg hx'] at h
      cases h
set_option maxRecDepth 20000 in
set_option maxHeartbeats 4000000 in
theorem w144_21 {g1 g2 g3 g4 : Value} {D : sm_D} {M : sm_M} {R : sm_S} (h : jM_reckon_21 D M = some R) : sm_WJ smT smCl smSa shC f144 1 21 [.ref 33, g1, g2, g3, g4] [] D M R := by
  have e : jM_reckon_21 D M = (sm_run shC smSa cal144 c144 true (fun a D M => some (a, D, M)) sm_noleaf 65 (c144.drop 12) [.ref 33, g1, g2, g3, g4] [] D M : Option (sm_S)) := rfl
  exact sm_blk (ρ := sm_S) (gd := (fun v => v = R)) (kx := 144) (i := 12) smVC rfl (by decide) ck144 (fun a D M v e1 e2 => by cases e1; exact e2.symm) (sm_noleaf_ok) rfl (e.symm.trans h) rfl
noncomputable def lf144_0 (D : sm_D) : Nat → List Value → List Value → sm_D → sm_M → Option (sm_S) := fun pc ls st D' M =>
  if pc = 21 then (match ls, st with
    | [.ref 33, gl1, gl2, gl3, gl4], [] => (jM_reckon_21 D' M)
    | _, _ => none)
  else none
theorem ll144_0 (D : sm_D) {R : sm_S} : ∀ (pc : Nat) (ls st : List Value) (D' : sm_D) (M : sm_M) (v : sm_S), (lf144_0 D) pc ls st D' M = some v → (fun v => v = R) v → sm_WJ smT smCl smSa shC f144 1 pc ls st D' M R := by
  intro pc ls st D' M v h hv
  unfold lf144_0 at h
  by_cases hp0 : pc = 21
  · subst hp0
    rw [if_pos (show (21 : Nat) = 21 from rfl)] at h
    split at h
    · skip
      have hv : v = R := hv
      subst hv
      exact w144_21  h
    · cases h
  · rw [if_neg hp0] at h
    cases h
set_option maxRecDepth 20000 in
set_option maxHeartbeats 4000000 in
theorem we144 {l1 l2 l3 l4 : Int32} {D : sm_D} {M : sm_M} {R : sm_S} (h : jM_reckon l1 l2 l3 l4 D M = some R) : sm_WJ smT smCl smSa shC f144 1 0 [.ref 33, .int l1, .int l2, .int l3, .int l4] [] D M R := by
  have e : jM_reckon l1 l2 l3 l4 D M = (sm_run shC smSa cal144 c144 true (fun a D M => some (a, D, M)) (lf144_0 D) 65 (c144.drop 0) [.ref 33, .int l1, .int l2, .int l3, .int l4] [] D M : Option (sm_S)) := rfl
  exact sm_blk (ρ := sm_S) (gd := (fun v => v = R)) (kx := 144) (i := 0) smVC rfl (by decide) ck144 (fun a D M v e1 e2 => by cases e1; exact e2.symm) (ll144_0 D) rfl (e.symm.trans h) rfl
theorem m144 {l1 l2 l3 l4 : Int32} {D : sm_D} {M : sm_M} {R : sm_S} (h : jM_reckon l1 l2 l3 l4 D M = some R) : sm_MJ smT smCl smSa shC f144 1 [.ref 33, .int l1, .int l2, .int l3, .int l4] D M R :=
  sm_met (by decide) (Nat.le_of_ble_eq_true rfl) (List.all_eq_true.mp rfl) (we144  h)

-- jM_pair
noncomputable def cal145  : sm_Cal := fun x as D M =>
  if x = 142 then (match as with
    | [.ref 33, .int a1] => (jM_stop a1 D M)
    | _ => none)
  else if x = 143 then (match as with
    | [.ref 33, .int a1, .int a2, .int a3] => (jM_become a1 a2 a3 D M)
    | _ => none)
  else none
theorem ck145  : sm_CalOk smT smCl smP smSa shC 1 cal145 := by
  intro x g as D M R hx h
  unfold cal145 at h
  by_cases hx' : x = 142
  · subst hx'
    rw [if_pos (show (142 : Nat) = 142 from rfl)] at h
    cases (show smP[142]? = some f142 from rfl).symm.trans hx
    split at h
    · skip
      exact Or.inl ⟨0, by omega, m142   h⟩
    · cases h
  · rw [if_neg hx'] at h
    by_cases hx' : x = 143
    · subst hx'
      rw [if_pos (show (143 : Nat) = 143 from rfl)] at h
      cases (show smP[143]? = some f143 from rfl).symm.trans hx
      split at h
      · skip
        exact Or.inl ⟨0, by omega, m143   h⟩
      · cases h
    · rw [if_neg hx'] at h
      cases h
set_option maxRecDepth 20000 in
set_option maxHeartbeats 4000000 in
theorem w145_18 {g1 g2 g3 : Value} {D : sm_D} {M : sm_M} {R : sm_S} (h : jM_pair_18 D M = some R) : sm_WJ smT smCl smSa shC f145 1 18 [.ref 33, g1, g2, g3] [] D M R := by
  have e : jM_pair_18 D M = (sm_run shC smSa cal145 c145 true (fun a D M => some (a, D, M)) sm_noleaf 78 (c145.drop 10) [.ref 33, g1, g2, g3] [] D M : Option (sm_S)) := rfl
  exact sm_blk (ρ := sm_S) (gd := (fun v => v = R)) (kx := 145) (i := 10) smVC rfl (by decide) ck145 (fun a D M v e1 e2 => by cases e1; exact e2.symm) (sm_noleaf_ok) rfl (e.symm.trans h) rfl
noncomputable def lf145_0 (D : sm_D) : Nat → List Value → List Value → sm_D → sm_M → Option (sm_S) := fun pc ls st D' M =>
  if pc = 18 then (match ls, st with
    | [.ref 33, gl1, gl2, gl3], [] => (jM_pair_18 D' M)
    | _, _ => none)
  else none
theorem ll145_0 (D : sm_D) {R : sm_S} : ∀ (pc : Nat) (ls st : List Value) (D' : sm_D) (M : sm_M) (v : sm_S), (lf145_0 D) pc ls st D' M = some v → (fun v => v = R) v → sm_WJ smT smCl smSa shC f145 1 pc ls st D' M R := by
  intro pc ls st D' M v h hv
  unfold lf145_0 at h
  by_cases hp0 : pc = 18
  · subst hp0
    rw [if_pos (show (18 : Nat) = 18 from rfl)] at h
    split at h
    · skip
      have hv : v = R := hv
      subst hv
      exact w145_18  h
    · cases h
  · rw [if_neg hp0] at h
    cases h
set_option maxRecDepth 20000 in
set_option maxHeartbeats 4000000 in
theorem we145 {l1 l2 l3 : Int32} {D : sm_D} {M : sm_M} {R : sm_S} (h : jM_pair l1 l2 l3 D M = some R) : sm_WJ smT smCl smSa shC f145 1 0 [.ref 33, .int l1, .int l2, .int l3] [] D M R := by
  have e : jM_pair l1 l2 l3 D M = (sm_run shC smSa cal145 c145 true (fun a D M => some (a, D, M)) (lf145_0 D) 78 (c145.drop 0) [.ref 33, .int l1, .int l2, .int l3] [] D M : Option (sm_S)) := rfl
  exact sm_blk (ρ := sm_S) (gd := (fun v => v = R)) (kx := 145) (i := 0) smVC rfl (by decide) ck145 (fun a D M v e1 e2 => by cases e1; exact e2.symm) (ll145_0 D) rfl (e.symm.trans h) rfl
theorem m145 {l1 l2 l3 : Int32} {D : sm_D} {M : sm_M} {R : sm_S} (h : jM_pair l1 l2 l3 D M = some R) : sm_MJ smT smCl smSa shC f145 1 [.ref 33, .int l1, .int l2, .int l3] D M R :=
  sm_met (by decide) (Nat.le_of_ble_eq_true rfl) (List.all_eq_true.mp rfl) (we145  h)

-- jM_load
noncomputable def cal146  : sm_Cal := fun x as D M =>
  if x = 142 then (match as with
    | [.ref 33, .int a1] => (jM_stop a1 D M)
    | _ => none)
  else if x = 143 then (match as with
    | [.ref 33, .int a1, .int a2, .int a3] => (jM_become a1 a2 a3 D M)
    | _ => none)
  else none
theorem ck146  : sm_CalOk smT smCl smP smSa shC 1 cal146 := by
  intro x g as D M R hx h
  unfold cal146 at h
  by_cases hx' : x = 142
  · subst hx'
    rw [if_pos (show (142 : Nat) = 142 from rfl)] at h
    cases (show smP[142]? = some f142 from rfl).symm.trans hx
    split at h
    · skip
      exact Or.inl ⟨0, by omega, m142   h⟩
    · cases h
  · rw [if_neg hx'] at h
    by_cases hx' : x = 143
    · subst hx'
      rw [if_pos (show (143 : Nat) = 143 from rfl)] at h
      cases (show smP[143]? = some f143 from rfl).symm.trans hx
      split at h
      · skip
        exact Or.inl ⟨0, by omega, m143   h⟩
      · cases h
    · rw [if_neg hx'] at h
      cases h
set_option maxRecDepth 20000 in
set_option maxHeartbeats 4000000 in
theorem w146_69 {s0 : Int32} {g0 g1 g2 g3 g4 : Value} {D : sm_D} {M : sm_M} {R : sm_S} (h : jM_load_69 s0 D M = some R) : sm_WJ smT smCl smSa shC f146 1 69 [g0, g1, g2, g3, g4] [.int s0] D M R := by
  have e : jM_load_69 s0 D M = (sm_run shC smSa cal146 c146 true (fun a D M => some (a, D, M)) sm_noleaf 46 (c146.drop 40) [g0, g1, g2, g3, g4] [.int s0] D M : Option (sm_S)) := rfl
  exact sm_blk (ρ := sm_S) (gd := (fun v => v = R)) (kx := 146) (i := 40) smVC rfl (by decide) ck146 (fun a D M v e1 e2 => by cases e1; exact e2.symm) (sm_noleaf_ok) rfl (e.symm.trans h) rfl
noncomputable def lf146_0 (D : sm_D) : Nat → List Value → List Value → sm_D → sm_M → Option (sm_S) := fun pc ls st D' M =>
  if pc = 69 then (match ls, st with
    | [gl0, gl1, gl2, gl3, gl4], [.int bs0] => (jM_load_69 bs0 D' M)
    | _, _ => none)
  else none
theorem ll146_0 (D : sm_D) {R : sm_S} : ∀ (pc : Nat) (ls st : List Value) (D' : sm_D) (M : sm_M) (v : sm_S), (lf146_0 D) pc ls st D' M = some v → (fun v => v = R) v → sm_WJ smT smCl smSa shC f146 1 pc ls st D' M R := by
  intro pc ls st D' M v h hv
  unfold lf146_0 at h
  by_cases hp0 : pc = 69
  · subst hp0
    rw [if_pos (show (69 : Nat) = 69 from rfl)] at h
    split at h
    · skip
      have hv : v = R := hv
      subst hv
      exact w146_69  h
    · cases h
  · rw [if_neg hp0] at h
    cases h
set_option maxRecDepth 20000 in
set_option maxHeartbeats 4000000 in
theorem we146 {l1 l2 l3 : Int32} {D : sm_D} {M : sm_M} {R : sm_S} (h : jM_load l1 l2 l3 D M = some R) : sm_WJ smT smCl smSa shC f146 1 0 [.ref 33, .int l1, .int l2, .int l3, .retAddr 0] [] D M R := by
  have e : jM_load l1 l2 l3 D M = (sm_run shC smSa cal146 c146 true (fun a D M => some (a, D, M)) (lf146_0 D) 46 (c146.drop 0) [.ref 33, .int l1, .int l2, .int l3, .retAddr 0] [] D M : Option (sm_S)) := rfl
  exact sm_blk (ρ := sm_S) (gd := (fun v => v = R)) (kx := 146) (i := 0) smVC rfl (by decide) ck146 (fun a D M v e1 e2 => by cases e1; exact e2.symm) (ll146_0 D) rfl (e.symm.trans h) rfl
theorem m146 {l1 l2 l3 : Int32} {D : sm_D} {M : sm_M} {R : sm_S} (h : jM_load l1 l2 l3 D M = some R) : sm_MJ smT smCl smSa shC f146 1 [.ref 33, .int l1, .int l2, .int l3] D M R :=
  sm_met (by decide) (Nat.le_of_ble_eq_true rfl) (List.all_eq_true.mp rfl) (we146  h)

-- jM_unwrap
noncomputable def cal147  : sm_Cal := fun x as D M =>
  if x = 142 then (match as with
    | [.ref 33, .int a1] => (jM_stop a1 D M)
    | _ => none)
  else if x = 143 then (match as with
    | [.ref 33, .int a1, .int a2, .int a3] => (jM_become a1 a2 a3 D M)
    | _ => none)
  else none
theorem ck147  : sm_CalOk smT smCl smP smSa shC 1 cal147 := by
  intro x g as D M R hx h
  unfold cal147 at h
  by_cases hx' : x = 142
  · subst hx'
    rw [if_pos (show (142 : Nat) = 142 from rfl)] at h
    cases (show smP[142]? = some f142 from rfl).symm.trans hx
    split at h
    · skip
      exact Or.inl ⟨0, by omega, m142   h⟩
    · cases h
  · rw [if_neg hx'] at h
    by_cases hx' : x = 143
    · subst hx'
      rw [if_pos (show (143 : Nat) = 143 from rfl)] at h
      cases (show smP[143]? = some f143 from rfl).symm.trans hx
      split at h
      · skip
        exact Or.inl ⟨0, by omega, m143   h⟩
      · cases h
    · rw [if_neg hx'] at h
      cases h
set_option maxRecDepth 20000 in
set_option maxHeartbeats 4000000 in
theorem w147_25 {g1 g2 g3 g4 : Value} {D : sm_D} {M : sm_M} {R : sm_S} (h : jM_unwrap_25 D M = some R) : sm_WJ smT smCl smSa shC f147 1 25 [.ref 33, g1, g2, g3, g4] [] D M R := by
  have e : jM_unwrap_25 D M = (sm_run shC smSa cal147 c147 true (fun a D M => some (a, D, M)) sm_noleaf 54 (c147.drop 15) [.ref 33, g1, g2, g3, g4] [] D M : Option (sm_S)) := rfl
  exact sm_blk (ρ := sm_S) (gd := (fun v => v = R)) (kx := 147) (i := 15) smVC rfl (by decide) ck147 (fun a D M v e1 e2 => by cases e1; exact e2.symm) (sm_noleaf_ok) rfl (e.symm.trans h) rfl
noncomputable def lf147_0 (D : sm_D) : Nat → List Value → List Value → sm_D → sm_M → Option (sm_S) := fun pc ls st D' M =>
  if pc = 25 then (match ls, st with
    | [.ref 33, gl1, gl2, gl3, gl4], [] => (jM_unwrap_25 D' M)
    | _, _ => none)
  else none
theorem ll147_0 (D : sm_D) {R : sm_S} : ∀ (pc : Nat) (ls st : List Value) (D' : sm_D) (M : sm_M) (v : sm_S), (lf147_0 D) pc ls st D' M = some v → (fun v => v = R) v → sm_WJ smT smCl smSa shC f147 1 pc ls st D' M R := by
  intro pc ls st D' M v h hv
  unfold lf147_0 at h
  by_cases hp0 : pc = 25
  · subst hp0
    rw [if_pos (show (25 : Nat) = 25 from rfl)] at h
    split at h
    · skip
      have hv : v = R := hv
      subst hv
      exact w147_25  h
    · cases h
  · rw [if_neg hp0] at h
    cases h
set_option maxRecDepth 20000 in
set_option maxHeartbeats 4000000 in
theorem we147 {l1 l2 l3 : Int32} {D : sm_D} {M : sm_M} {R : sm_S} (h : jM_unwrap l1 l2 l3 D M = some R) : sm_WJ smT smCl smSa shC f147 1 0 [.ref 33, .int l1, .int l2, .int l3, .retAddr 0] [] D M R := by
  have e : jM_unwrap l1 l2 l3 D M = (sm_run shC smSa cal147 c147 true (fun a D M => some (a, D, M)) (lf147_0 D) 54 (c147.drop 0) [.ref 33, .int l1, .int l2, .int l3, .retAddr 0] [] D M : Option (sm_S)) := rfl
  exact sm_blk (ρ := sm_S) (gd := (fun v => v = R)) (kx := 147) (i := 0) smVC rfl (by decide) ck147 (fun a D M v e1 e2 => by cases e1; exact e2.symm) (ll147_0 D) rfl (e.symm.trans h) rfl
theorem m147 {l1 l2 l3 : Int32} {D : sm_D} {M : sm_M} {R : sm_S} (h : jM_unwrap l1 l2 l3 D M = some R) : sm_MJ smT smCl smSa shC f147 1 [.ref 33, .int l1, .int l2, .int l3] D M R :=
  sm_met (by decide) (Nat.le_of_ble_eq_true rfl) (List.all_eq_true.mp rfl) (we147  h)

-- jM_enter
noncomputable def cal148  : sm_Cal := fun x as D M =>
  if x = 104 then (match as with
    | [.ref q0, .int a1] => (sm_ga [q0] gC (jC_hasBlock q0 a1 D M))
    | _ => none)
  else if x = 142 then (match as with
    | [.ref 33, .int a1] => (jM_stop a1 D M)
    | _ => none)
  else none
theorem ck148  : sm_CalOk smT smCl smP smSa shC 1 cal148 := by
  intro x g as D M R hx h
  unfold cal148 at h
  by_cases hx' : x = 104
  · subst hx'
    rw [if_pos (show (104 : Nat) = 104 from rfl)] at h
    cases (show smP[104]? = some f104 from rfl).symm.trans hx
    split at h
    · replace h := sm_ga_inv h
      obtain ⟨h1, h⟩ := h
      exact Or.inl ⟨0, by omega, m104  h1 h⟩
    · cases h
  · rw [if_neg hx'] at h
    by_cases hx' : x = 142
    · subst hx'
      rw [if_pos (show (142 : Nat) = 142 from rfl)] at h
      cases (show smP[142]? = some f142 from rfl).symm.trans hx
      split at h
      · skip
        exact Or.inl ⟨0, by omega, m142   h⟩
      · cases h
    · rw [if_neg hx'] at h
      cases h
set_option maxRecDepth 20000 in
set_option maxHeartbeats 4000000 in
theorem we148 (d0 d1 d2 d3 d4 : Nat) (hd2 : [d2] ∈ gC) {l1 : Int32} {M : sm_M} {R : sm_S} (h : jM_enter d0 d1 d2 d3 d4 l1 M = some R) : sm_WJ smT smCl smSa shC f148 1 0 [.ref 33, .int l1] [] [d0, d1, d2, d3, d4] M R := by
  rcases gC_inv hd2 with rfl | rfl
  · have e : jM_enter d0 d1 40 d3 d4 l1 M = (sm_run shC smSa cal148 c148 true (fun a D M => some (a, D, M)) sm_noleaf 22 (c148.drop 0) [.ref 33, .int l1] [] [d0, d1, 40, d3, d4] M : Option (sm_S)) := rfl
    exact sm_blk (ρ := sm_S) (gd := (fun v => v = R)) (kx := 148) (i := 0) smVC rfl (by decide) ck148 (fun a D M v e1 e2 => by cases e1; exact e2.symm) (sm_noleaf_ok) rfl (e.symm.trans h) rfl
  · have e : jM_enter d0 d1 50 d3 d4 l1 M = (sm_run shC smSa cal148 c148 true (fun a D M => some (a, D, M)) sm_noleaf 22 (c148.drop 0) [.ref 33, .int l1] [] [d0, d1, 50, d3, d4] M : Option (sm_S)) := rfl
    exact sm_blk (ρ := sm_S) (gd := (fun v => v = R)) (kx := 148) (i := 0) smVC rfl (by decide) ck148 (fun a D M v e1 e2 => by cases e1; exact e2.symm) (sm_noleaf_ok) rfl (e.symm.trans h) rfl
theorem m148 {d0 d1 d2 d3 d4 : Nat} (hd2 : [d2] ∈ gC) {l1 : Int32} {M : sm_M} {R : sm_S} (h : jM_enter d0 d1 d2 d3 d4 l1 M = some R) : sm_MJ smT smCl smSa shC f148 1 [.ref 33, .int l1] [d0, d1, d2, d3, d4] M R :=
  sm_met (by decide) (Nat.le_of_ble_eq_true rfl) (List.all_eq_true.mp rfl) (we148 d0 d1 d2 d3 d4 hd2 h)

-- jM_branch
noncomputable def cal149  : sm_Cal := fun x as D M =>
  if x = 142 then (match as with
    | [.ref 33, .int a1] => (jM_stop a1 D M)
    | _ => none)
  else if x = 148 then (match as, D with
    | [.ref 33, .int a1], [e0, e1, e2, e3, e4] => (sm_ga [e2] gC (jM_enter e0 e1 e2 e3 e4 a1 M))
    | _, _ => none)
  else none
theorem ck149  : sm_CalOk smT smCl smP smSa shC 2 cal149 := by
  intro x g as D M R hx h
  unfold cal149 at h
  by_cases hx' : x = 142
  · subst hx'
    rw [if_pos (show (142 : Nat) = 142 from rfl)] at h
    cases (show smP[142]? = some f142 from rfl).symm.trans hx
    split at h
    · skip
      exact Or.inl ⟨0, by omega, m142   h⟩
    · cases h
  · rw [if_neg hx'] at h
    by_cases hx' : x = 148
    · subst hx'
      rw [if_pos (show (148 : Nat) = 148 from rfl)] at h
      cases (show smP[148]? = some f148 from rfl).symm.trans hx
      split at h
      · replace h := sm_ga_inv h
        obtain ⟨h1, h⟩ := h
        exact Or.inl ⟨1, by omega, m148  h1 h⟩
      · cases h
    · rw [if_neg hx'] at h
      cases h
set_option maxRecDepth 20000 in
set_option maxHeartbeats 4000000 in
theorem we149 (d0 d1 d2 d3 d4 : Nat) {l1 l2 : Int32} {M : sm_M} {R : sm_S} (h : jM_branch d0 d1 d2 d3 d4 l1 l2 M = some R) : sm_WJ smT smCl smSa shC f149 2 0 [.ref 33, .int l1, .int l2] [] [d0, d1, d2, d3, d4] M R := by
  have e : jM_branch d0 d1 d2 d3 d4 l1 l2 M = (sm_run shC smSa cal149 c149 true (fun a D M => some (a, D, M)) sm_noleaf 32 (c149.drop 0) [.ref 33, .int l1, .int l2] [] [d0, d1, d2, d3, d4] M : Option (sm_S)) := rfl
  exact sm_blk (ρ := sm_S) (gd := (fun v => v = R)) (kx := 149) (i := 0) smVC rfl (by decide) ck149 (fun a D M v e1 e2 => by cases e1; exact e2.symm) (sm_noleaf_ok) rfl (e.symm.trans h) rfl
theorem m149 {d0 d1 d2 d3 d4 : Nat} {l1 l2 : Int32} {M : sm_M} {R : sm_S} (h : jM_branch d0 d1 d2 d3 d4 l1 l2 M = some R) : sm_MJ smT smCl smSa shC f149 2 [.ref 33, .int l1, .int l2] [d0, d1, d2, d3, d4] M R :=
  sm_met (by decide) (Nat.le_of_ble_eq_true rfl) (List.all_eq_true.mp rfl) (we149 d0 d1 d2 d3 d4 h)

-- jM_perform
noncomputable def cal141  : sm_Cal := fun x as D M =>
  if x = 106 then (match as with
    | [.ref q0, .int a1] => (sm_ga [q0] gC (jC_lengthOf q0 a1 D M))
    | _ => none)
  else if x = 142 then (match as with
    | [.ref 33, .int a1] => (jM_stop a1 D M)
    | _ => none)
  else if x = 105 then (match as with
    | [.ref q0, .int a1] => (sm_ga [q0] gC (jC_startOf q0 a1 D M))
    | _ => none)
  else if x = 143 then (match as with
    | [.ref 33, .int a1, .int a2, .int a3] => (jM_become a1 a2 a3 D M)
    | _ => none)
  else if x = 144 then (match as with
    | [.ref 33, .int a1, .int a2, .int a3, .int a4] => (jM_reckon a1 a2 a3 a4 D M)
    | _ => none)
  else if x = 145 then (match as with
    | [.ref 33, .int a1, .int a2, .int a3] => (jM_pair a1 a2 a3 D M)
    | _ => none)
  else if x = 146 then (match as with
    | [.ref 33, .int a1, .int a2, .int a3] => (jM_load a1 a2 a3 D M)
    | _ => none)
  else if x = 147 then (match as with
    | [.ref 33, .int a1, .int a2, .int a3] => (jM_unwrap a1 a2 a3 D M)
    | _ => none)
  else if x = 148 then (match as, D with
    | [.ref 33, .int a1], [e0, e1, e2, e3, e4] => (sm_ga [e2] gC (jM_enter e0 e1 e2 e3 e4 a1 M))
    | _, _ => none)
  else if x = 149 then (match as, D with
    | [.ref 33, .int a1, .int a2], [e0, e1, e2, e3, e4] => (jM_branch e0 e1 e2 e3 e4 a1 a2 M)
    | _, _ => none)
  else none
theorem ck141  : sm_CalOk smT smCl smP smSa shC 3 cal141 := by
  intro x g as D M R hx h
  unfold cal141 at h
  by_cases hx' : x = 106
  · subst hx'
    rw [if_pos (show (106 : Nat) = 106 from rfl)] at h
    cases (show smP[106]? = some f106 from rfl).symm.trans hx
    split at h
    · replace h := sm_ga_inv h
      obtain ⟨h1, h⟩ := h
      exact Or.inl ⟨1, by omega, m106  h1 h⟩
    · cases h
  · rw [if_neg hx'] at h
    by_cases hx' : x = 142
    · subst hx'
      rw [if_pos (show (142 : Nat) = 142 from rfl)] at h
      cases (show smP[142]? = some f142 from rfl).symm.trans hx
      split at h
      · skip
        exact Or.inl ⟨0, by omega, m142   h⟩
      · cases h
    · rw [if_neg hx'] at h
      by_cases hx' : x = 105
      · subst hx'
        rw [if_pos (show (105 : Nat) = 105 from rfl)] at h
        cases (show smP[105]? = some f105 from rfl).symm.trans hx
        split at h
        · replace h := sm_ga_inv h
          obtain ⟨h1, h⟩ := h
          exact Or.inl ⟨1, by omega, m105  h1 h⟩
        · cases h
      · rw [if_neg hx'] at h
        by_cases hx' : x = 143
        · subst hx'
          rw [if_pos (show (143 : Nat) = 143 from rfl)] at h
          cases (show smP[143]? = some f143 from rfl).symm.trans hx
          split at h
          · skip
            exact Or.inl ⟨0, by omega, m143   h⟩
          · cases h
        · rw [if_neg hx'] at h
          by_cases hx' : x = 144
          · subst hx'
            rw [if_pos (show (144 : Nat) = 144 from rfl)] at h
            cases (show smP[144]? = some f144 from rfl).symm.trans hx
            split at h
            · skip
              exact Or.inl ⟨1, by omega, m144   h⟩
            · cases h
          · rw [if_neg hx'] at h
            by_cases hx' : x = 145
            · subst hx'
              rw [if_pos (show (145 : Nat) = 145 from rfl)] at h
              cases (show smP[145]? = some f145 from rfl).symm.trans hx
              split at h
              · skip
                exact Or.inl ⟨1, by omega, m145   h⟩
              · cases h
            · rw [if_neg hx'] at h
              by_cases hx' : x = 146
              · subst hx'
                rw [if_pos (show (146 : Nat) = 146 from rfl)] at h
                cases (show smP[146]? = some f146 from rfl).symm.trans hx
                split at h
                · skip
                  exact Or.inl ⟨1, by omega, m146   h⟩
                · cases h
              · rw [if_neg hx'] at h
                by_cases hx' : x = 147
                · subst hx'
                  rw [if_pos (show (147 : Nat) = 147 from rfl)] at h
                  cases (show smP[147]? = some f147 from rfl).symm.trans hx
                  split at h
                  · skip
                    exact Or.inl ⟨1, by omega, m147   h⟩
                  · cases h
                · rw [if_neg hx'] at h
                  by_cases hx' : x = 148
                  · subst hx'
                    rw [if_pos (show (148 : Nat) = 148 from rfl)] at h
                    cases (show smP[148]? = some f148 from rfl).symm.trans hx
                    split at h
                    · replace h := sm_ga_inv h
                      obtain ⟨h1, h⟩ := h
                      exact Or.inl ⟨1, by omega, m148  h1 h⟩
                    · cases h
                  · rw [if_neg hx'] at h
                    by_cases hx' : x = 149
                    · subst hx'
                      rw [if_pos (show (149 : Nat) = 149 from rfl)] at h
                      cases (show smP[149]? = some f149 from rfl).symm.trans hx
                      split at h
                      · skip
                        exact Or.inl ⟨2, by omega, m149   h⟩
                      · cases h
                    · rw [if_neg hx'] at h
                      cases h
set_option maxRecDepth 20000 in
set_option maxHeartbeats 4000000 in
theorem w141_152 (d0 d1 d2 d3 d4 : Nat) (hd2 : [d2] ∈ gC) {l1 l2 l3 l4 : Int32} {M : sm_M} {R : sm_S} (h : jM_perform_152 d0 d1 d2 d3 d4 l1 l2 l3 l4 M = some R) : sm_WJ smT smCl smSa shC f141 3 152 [.ref 33, .int l1, .int l2, .int l3, .int l4] [] [d0, d1, d2, d3, d4] M R := by
  rcases gC_inv hd2 with rfl | rfl
  · have e : jM_perform_152 d0 d1 40 d3 d4 l1 l2 l3 l4 M = (sm_run shC smSa cal141 c141 true (fun a D M => some (a, D, M)) sm_noleaf 141 (c141.drop 51) [.ref 33, .int l1, .int l2, .int l3, .int l4] [] [d0, d1, 40, d3, d4] M : Option (sm_S)) := rfl
    exact sm_blk (ρ := sm_S) (gd := (fun v => v = R)) (kx := 141) (i := 51) smVC rfl (by decide) ck141 (fun a D M v e1 e2 => by cases e1; exact e2.symm) (sm_noleaf_ok) rfl (e.symm.trans h) rfl
  · have e : jM_perform_152 d0 d1 50 d3 d4 l1 l2 l3 l4 M = (sm_run shC smSa cal141 c141 true (fun a D M => some (a, D, M)) sm_noleaf 141 (c141.drop 51) [.ref 33, .int l1, .int l2, .int l3, .int l4] [] [d0, d1, 50, d3, d4] M : Option (sm_S)) := rfl
    exact sm_blk (ρ := sm_S) (gd := (fun v => v = R)) (kx := 141) (i := 51) smVC rfl (by decide) ck141 (fun a D M v e1 e2 => by cases e1; exact e2.symm) (sm_noleaf_ok) rfl (e.symm.trans h) rfl
set_option maxRecDepth 20000 in
set_option maxHeartbeats 4000000 in
theorem w141_226 (d0 d1 d2 d3 d4 : Nat) (hd2 : [d2] ∈ gC) {s0 : Int32} {g0 g1 g2 g3 g4 : Value} {M : sm_M} {R : sm_S} (h : jM_perform_226 d0 d1 d2 d3 d4 s0 M = some R) : sm_WJ smT smCl smSa shC f141 3 226 [g0, g1, g2, g3, g4] [.int s0] [d0, d1, d2, d3, d4] M R := by
  rcases gC_inv hd2 with rfl | rfl
  · have e : jM_perform_226 d0 d1 40 d3 d4 s0 M = (sm_run shC smSa cal141 c141 true (fun a D M => some (a, D, M)) sm_noleaf 141 (c141.drop 98) [g0, g1, g2, g3, g4] [.int s0] [d0, d1, 40, d3, d4] M : Option (sm_S)) := rfl
    exact sm_blk (ρ := sm_S) (gd := (fun v => v = R)) (kx := 141) (i := 98) smVC rfl (by decide) ck141 (fun a D M v e1 e2 => by cases e1; exact e2.symm) (sm_noleaf_ok) rfl (e.symm.trans h) rfl
  · have e : jM_perform_226 d0 d1 50 d3 d4 s0 M = (sm_run shC smSa cal141 c141 true (fun a D M => some (a, D, M)) sm_noleaf 141 (c141.drop 98) [g0, g1, g2, g3, g4] [.int s0] [d0, d1, 50, d3, d4] M : Option (sm_S)) := rfl
    exact sm_blk (ρ := sm_S) (gd := (fun v => v = R)) (kx := 141) (i := 98) smVC rfl (by decide) ck141 (fun a D M v e1 e2 => by cases e1; exact e2.symm) (sm_noleaf_ok) rfl (e.symm.trans h) rfl
set_option maxRecDepth 20000 in
set_option maxHeartbeats 4000000 in
theorem w141_277 (d0 d1 d2 d3 d4 : Nat) (hd2 : [d2] ∈ gC) {s0 : Int32} {g0 g1 g2 g3 g4 : Value} {M : sm_M} {R : sm_S} (h : jM_perform_277 d0 d1 d2 d3 d4 s0 M = some R) : sm_WJ smT smCl smSa shC f141 3 277 [g0, g1, g2, g3, g4] [.int s0] [d0, d1, d2, d3, d4] M R := by
  rcases gC_inv hd2 with rfl | rfl
  · have e : jM_perform_277 d0 d1 40 d3 d4 s0 M = (sm_run shC smSa cal141 c141 true (fun a D M => some (a, D, M)) sm_noleaf 141 (c141.drop 130) [g0, g1, g2, g3, g4] [.int s0] [d0, d1, 40, d3, d4] M : Option (sm_S)) := rfl
    exact sm_blk (ρ := sm_S) (gd := (fun v => v = R)) (kx := 141) (i := 130) smVC rfl (by decide) ck141 (fun a D M v e1 e2 => by cases e1; exact e2.symm) (sm_noleaf_ok) rfl (e.symm.trans h) rfl
  · have e : jM_perform_277 d0 d1 50 d3 d4 s0 M = (sm_run shC smSa cal141 c141 true (fun a D M => some (a, D, M)) sm_noleaf 141 (c141.drop 130) [g0, g1, g2, g3, g4] [.int s0] [d0, d1, 50, d3, d4] M : Option (sm_S)) := rfl
    exact sm_blk (ρ := sm_S) (gd := (fun v => v = R)) (kx := 141) (i := 130) smVC rfl (by decide) ck141 (fun a D M v e1 e2 => by cases e1; exact e2.symm) (sm_noleaf_ok) rfl (e.symm.trans h) rfl
noncomputable def lf141_0 (d0 d1 d2 d3 d4 : Nat) : Nat → List Value → List Value → sm_D → sm_M → Option (sm_S) := fun pc ls st D' M =>
  if pc = 152 then (match ls, st with
    | [.ref 33, .int bl1, .int bl2, .int bl3, .int bl4], [] => (sm_dq D' [d0, d1, d2, d3, d4] (jM_perform_152 d0 d1 d2 d3 d4 bl1 bl2 bl3 bl4 M))
    | _, _ => none)
  else if pc = 226 then (match ls, st with
    | [gl0, gl1, gl2, gl3, gl4], [.int bs0] => (sm_dq D' [d0, d1, d2, d3, d4] (jM_perform_226 d0 d1 d2 d3 d4 bs0 M))
    | _, _ => none)
  else if pc = 277 then (match ls, st with
    | [gl0, gl1, gl2, gl3, gl4], [.int bs0] => (sm_dq D' [d0, d1, d2, d3, d4] (jM_perform_277 d0 d1 d2 d3 d4 bs0 M))
    | _, _ => none)
  else none
theorem ll141_0 (d0 d1 d2 d3 d4 : Nat) (hd2 : [d2] ∈ gC) {R : sm_S} : ∀ (pc : Nat) (ls st : List Value) (D' : sm_D) (M : sm_M) (v : sm_S), (lf141_0 d0 d1 d2 d3 d4) pc ls st D' M = some v → (fun v => v = R) v → sm_WJ smT smCl smSa shC f141 3 pc ls st D' M R := by
  intro pc ls st D' M v h hv
  unfold lf141_0 at h
  by_cases hp0 : pc = 152
  · subst hp0
    rw [if_pos (show (152 : Nat) = 152 from rfl)] at h
    split at h
    · skip
      replace h := sm_dq_inv h
      obtain ⟨he, h⟩ := h
      subst he
      have hv : v = R := hv
      subst hv
      exact w141_152 _ _ _ _ _ hd2 h
    · cases h
  · rw [if_neg hp0] at h
    by_cases hp0 : pc = 226
    · subst hp0
      rw [if_pos (show (226 : Nat) = 226 from rfl)] at h
      split at h
      · skip
        replace h := sm_dq_inv h
        obtain ⟨he, h⟩ := h
        subst he
        have hv : v = R := hv
        subst hv
        exact w141_226 _ _ _ _ _ hd2 h
      · cases h
    · rw [if_neg hp0] at h
      by_cases hp0 : pc = 277
      · subst hp0
        rw [if_pos (show (277 : Nat) = 277 from rfl)] at h
        split at h
        · skip
          replace h := sm_dq_inv h
          obtain ⟨he, h⟩ := h
          subst he
          have hv : v = R := hv
          subst hv
          exact w141_277 _ _ _ _ _ hd2 h
        · cases h
      · rw [if_neg hp0] at h
        cases h
set_option maxRecDepth 20000 in
set_option maxHeartbeats 4000000 in
theorem we141 (d0 d1 d2 d3 d4 : Nat) (hd2 : [d2] ∈ gC) {M : sm_M} {R : sm_S} (h : jM_perform d0 d1 d2 d3 d4 M = some R) : sm_WJ smT smCl smSa shC f141 3 0 [.ref 33, .retAddr 0, .retAddr 0, .retAddr 0, .retAddr 0] [] [d0, d1, d2, d3, d4] M R := by
  rcases gC_inv hd2 with rfl | rfl
  · have e : jM_perform d0 d1 40 d3 d4 M = (sm_run shC smSa cal141 c141 true (fun a D M => some (a, D, M)) (lf141_0 d0 d1 40 d3 d4) 141 (c141.drop 0) [.ref 33, .retAddr 0, .retAddr 0, .retAddr 0, .retAddr 0] [] [d0, d1, 40, d3, d4] M : Option (sm_S)) := rfl
    exact sm_blk (ρ := sm_S) (gd := (fun v => v = R)) (kx := 141) (i := 0) smVC rfl (by decide) ck141 (fun a D M v e1 e2 => by cases e1; exact e2.symm) (ll141_0 d0 d1 40 d3 d4 (by decide)) rfl (e.symm.trans h) rfl
  · have e : jM_perform d0 d1 50 d3 d4 M = (sm_run shC smSa cal141 c141 true (fun a D M => some (a, D, M)) (lf141_0 d0 d1 50 d3 d4) 141 (c141.drop 0) [.ref 33, .retAddr 0, .retAddr 0, .retAddr 0, .retAddr 0] [] [d0, d1, 50, d3, d4] M : Option (sm_S)) := rfl
    exact sm_blk (ρ := sm_S) (gd := (fun v => v = R)) (kx := 141) (i := 0) smVC rfl (by decide) ck141 (fun a D M v e1 e2 => by cases e1; exact e2.symm) (ll141_0 d0 d1 50 d3 d4 (by decide)) rfl (e.symm.trans h) rfl
theorem m141 {d0 d1 d2 d3 d4 : Nat} (hd2 : [d2] ∈ gC) {M : sm_M} {R : sm_S} (h : jM_perform d0 d1 d2 d3 d4 M = some R) : sm_MJ smT smCl smSa shC f141 3 [.ref 33] [d0, d1, d2, d3, d4] M R :=
  sm_met (by decide) (Nat.le_of_ble_eq_true rfl) (List.all_eq_true.mp rfl) (we141 d0 d1 d2 d3 d4 hd2 h)

-- jM_goOn
noncomputable def cal139  : sm_Cal := fun x as D M =>
  if x = 141 then (match as, D with
    | [.ref 33], [e0, e1, e2, e3, e4] => (sm_ga [e2] gC (jM_perform e0 e1 e2 e3 e4 M))
    | _, _ => none)
  else none
theorem ck139  : sm_CalOk smT smCl smP smSa shC 4 cal139 := by
  intro x g as D M R hx h
  unfold cal139 at h
  by_cases hx' : x = 141
  · subst hx'
    rw [if_pos (show (141 : Nat) = 141 from rfl)] at h
    cases (show smP[141]? = some f141 from rfl).symm.trans hx
    split at h
    · replace h := sm_ga_inv h
      obtain ⟨h1, h⟩ := h
      exact Or.inl ⟨3, by omega, m141  h1 h⟩
    · cases h
  · rw [if_neg hx'] at h
    cases h
def lh139_4 (d0 d1 d2 d3 d4 : Nat) (R : sm_S) (s : Int32 × Int32 × Int32 × sm_M) : Prop := sm_WJ smT smCl smSa shC f139 4 4 [.ref 33, .int (s.1), .int (s.2.1), .int (s.2.2.1)] [] [d0, d1, d2, d3, d4] (s.2.2.2) R
def gd139_4 (d0 d1 d2 d3 d4 : Nat) (R : sm_S) (v : (Int32 × Int32 × Int32 × sm_M) ⊕ sm_S) : Prop := match v with
  | .inl s => lh139_4 d0 d1 d2 d3 d4 R s
  | .inr r => r = R
noncomputable def lf139_29 (d0 d1 d2 d3 d4 : Nat) : Nat → List Value → List Value → sm_D → sm_M → Option ((Int32 × Int32 × Int32 × sm_M) ⊕ sm_S) := fun pc ls st D' M =>
  if pc = 4 then (match ls, st with
    | [.ref 33, .int bl1, .int bl2, .int bl3], [] => (sm_dq D' [d0, d1, d2, d3, d4] (some (.inl (bl1, bl2, bl3, M))))
    | _, _ => none)
  else none
theorem ll139_29 (d0 d1 d2 d3 d4 : Nat) {R : sm_S} : ∀ (pc : Nat) (ls st : List Value) (D' : sm_D) (M : sm_M) (v : (Int32 × Int32 × Int32 × sm_M) ⊕ sm_S), (lf139_29 d0 d1 d2 d3 d4) pc ls st D' M = some v → (gd139_4 d0 d1 d2 d3 d4 R) v → sm_WJ smT smCl smSa shC f139 4 pc ls st D' M R := by
  intro pc ls st D' M v h hv
  unfold lf139_29 at h
  by_cases hp0 : pc = 4
  · subst hp0
    rw [if_pos (show (4 : Nat) = 4 from rfl)] at h
    split at h
    · skip
      replace h := sm_dq_inv h
      obtain ⟨he, h⟩ := h
      subst he
      cases h
      exact hv
    · cases h
  · rw [if_neg hp0] at h
    cases h
set_option maxRecDepth 20000 in
set_option maxHeartbeats 4000000 in
theorem w139_29 (d0 d1 d2 d3 d4 : Nat) {l1 l3 s0 s1 : Int32} {g2 : Value} {M : sm_M} {R : sm_S} {v : (Int32 × Int32 × Int32 × sm_M) ⊕ sm_S} (h : jM_goOn_29 d0 d1 d2 d3 d4 l1 l3 s0 s1 M = some v) (hv : (gd139_4 d0 d1 d2 d3 d4 R) v) : sm_WJ smT smCl smSa shC f139 4 29 [.ref 33, .int l1, g2, .int l3] [.int s1, .int s0] [d0, d1, d2, d3, d4] M R := by
  have e : jM_goOn_29 d0 d1 d2 d3 d4 l1 l3 s0 s1 M = (sm_run shC smSa cal139 c139 false (fun a D M => some (.inr (a, D, M))) (lf139_29 d0 d1 d2 d3 d4) 28 (c139.drop 17) [.ref 33, .int l1, g2, .int l3] [.int s1, .int s0] [d0, d1, d2, d3, d4] M : Option ((Int32 × Int32 × Int32 × sm_M) ⊕ sm_S)) := rfl
  exact sm_blk (ρ := (Int32 × Int32 × Int32 × sm_M) ⊕ sm_S) (gd := (gd139_4 d0 d1 d2 d3 d4 R)) (kx := 139) (i := 17) smVC rfl (by decide) ck139 (fun a D M v e1 e2 => by cases e1; exact e2.symm) (ll139_29 d0 d1 d2 d3 d4) rfl (e.symm.trans h) hv
set_option maxRecDepth 20000 in
set_option maxHeartbeats 4000000 in
theorem w139_37 (d0 d1 d2 d3 d4 : Nat) {l2 : Int32} {g0 g1 g3 : Value} {M : sm_M} {R : sm_S} (h : jM_goOn_37 d0 d1 d2 d3 d4 l2 M = some R) : sm_WJ smT smCl smSa shC f139 4 37 [g0, g1, .int l2, g3] [] [d0, d1, d2, d3, d4] M R := by
  have e : jM_goOn_37 d0 d1 d2 d3 d4 l2 M = (sm_run shC smSa cal139 c139 false (fun a D M => some (a, D, M)) sm_noleaf 28 (c139.drop 21) [g0, g1, .int l2, g3] [] [d0, d1, d2, d3, d4] M : Option (sm_S)) := rfl
  exact sm_blk (ρ := sm_S) (gd := (fun v => v = R)) (kx := 139) (i := 21) smVC rfl (by decide) ck139 (fun a D M v e1 e2 => by cases e1; exact e2.symm) (sm_noleaf_ok) rfl (e.symm.trans h) rfl
noncomputable def lf139_4 (d0 d1 d2 d3 d4 : Nat) : Nat → List Value → List Value → sm_D → sm_M → Option ((Int32 × Int32 × Int32 × sm_M) ⊕ sm_S) := fun pc ls st D' M =>
  if pc = 29 then (match ls, st with
    | [.ref 33, .int bl1, gl2, .int bl3], [.int bs1, .int bs0] => (sm_dq D' [d0, d1, d2, d3, d4] (jM_goOn_29 d0 d1 d2 d3 d4 bl1 bl3 bs0 bs1 M))
    | _, _ => none)
  else if pc = 37 then (match ls, st with
    | [gl0, gl1, .int bl2, gl3], [] => (sm_dq D' [d0, d1, d2, d3, d4] (sm_inr (jM_goOn_37 d0 d1 d2 d3 d4 bl2 M)))
    | _, _ => none)
  else none
theorem ll139_4 (d0 d1 d2 d3 d4 : Nat) {R : sm_S} : ∀ (pc : Nat) (ls st : List Value) (D' : sm_D) (M : sm_M) (v : (Int32 × Int32 × Int32 × sm_M) ⊕ sm_S), (lf139_4 d0 d1 d2 d3 d4) pc ls st D' M = some v → (gd139_4 d0 d1 d2 d3 d4 R) v → sm_WJ smT smCl smSa shC f139 4 pc ls st D' M R := by
  intro pc ls st D' M v h hv
  unfold lf139_4 at h
  by_cases hp0 : pc = 29
  · subst hp0
    rw [if_pos (show (29 : Nat) = 29 from rfl)] at h
    split at h
    · skip
      replace h := sm_dq_inv h
      obtain ⟨he, h⟩ := h
      subst he
      exact w139_29 _ _ _ _ _ h hv
    · cases h
  · rw [if_neg hp0] at h
    by_cases hp0 : pc = 37
    · subst hp0
      rw [if_pos (show (37 : Nat) = 37 from rfl)] at h
      split at h
      · skip
        replace h := sm_dq_inv h
        obtain ⟨he, h⟩ := h
        subst he
        replace h := sm_inr_inv h
        obtain ⟨r, h, he⟩ := h
        subst he
        have hv : r = R := hv
        subst hv
        exact w139_37 _ _ _ _ _ h
      · cases h
    · rw [if_neg hp0] at h
      cases h
set_option maxRecDepth 20000 in
set_option maxHeartbeats 4000000 in
theorem wc139_4 (d0 d1 d2 d3 d4 : Nat) {l1 l2 l3 : Int32} {M : sm_M} {R : sm_S} {v : (Int32 × Int32 × Int32 × sm_M) ⊕ sm_S} (h : jM_goOn_4_c d0 d1 d2 d3 d4 l1 l2 l3 M = some v) (hv : (gd139_4 d0 d1 d2 d3 d4 R) v) : sm_WJ smT smCl smSa shC f139 4 4 [.ref 33, .int l1, .int l2, .int l3] [] [d0, d1, d2, d3, d4] M R := by
  have e : jM_goOn_4_c d0 d1 d2 d3 d4 l1 l2 l3 M = (sm_run shC smSa cal139 c139 false (fun a D M => some (.inr (a, D, M))) (lf139_4 d0 d1 d2 d3 d4) 28 (c139.drop 4) [.ref 33, .int l1, .int l2, .int l3] [] [d0, d1, d2, d3, d4] M : Option ((Int32 × Int32 × Int32 × sm_M) ⊕ sm_S)) := rfl
  exact sm_blk (ρ := (Int32 × Int32 × Int32 × sm_M) ⊕ sm_S) (gd := (gd139_4 d0 d1 d2 d3 d4 R)) (kx := 139) (i := 4) smVC rfl (by decide) ck139 (fun a D M v e1 e2 => by cases e1; exact e2.symm) (ll139_4 d0 d1 d2 d3 d4) rfl (e.symm.trans h) hv
theorem w139_4 (d0 d1 d2 d3 d4 : Nat) {l1 l2 l3 : Int32} {M : sm_M} {R : sm_S} (h : jM_goOn_4 d0 d1 d2 d3 d4 l1 l2 l3 M = some R) : sm_WJ smT smCl smSa shC f139 4 4 [.ref 33, .int l1, .int l2, .int l3] [] [d0, d1, d2, d3, d4] M R := by
  have hh : lh139_4 d0 d1 d2 d3 d4 R (l1, l2, l3, M) := by
    refine sm_lp_ind (b := jM_goOn_4_b d0 d1 d2 d3 d4) (r := R) (lh139_4 d0 d1 d2 d3 d4 R) ?_ h
    intro s v hb h1 h2
    obtain ⟨z0, z1, z2, M1⟩ := s
    have hv : gd139_4 d0 d1 d2 d3 d4 R v := by
      cases v with
      | inl s' => exact h1 s' rfl
      | inr r => exact h2 r rfl
    exact wc139_4 d0 d1 d2 d3 d4 hb hv
  exact hh
noncomputable def lf139_0 (d0 d1 d2 d3 d4 : Nat) : Nat → List Value → List Value → sm_D → sm_M → Option (sm_S) := fun pc ls st D' M =>
  if pc = 4 then (match ls, st with
    | [.ref 33, .int bl1, .int bl2, .int bl3], [] => (sm_dq D' [d0, d1, d2, d3, d4] (jM_goOn_4 d0 d1 d2 d3 d4 bl1 bl2 bl3 M))
    | _, _ => none)
  else none
theorem ll139_0 (d0 d1 d2 d3 d4 : Nat) {R : sm_S} : ∀ (pc : Nat) (ls st : List Value) (D' : sm_D) (M : sm_M) (v : sm_S), (lf139_0 d0 d1 d2 d3 d4) pc ls st D' M = some v → (fun v => v = R) v → sm_WJ smT smCl smSa shC f139 4 pc ls st D' M R := by
  intro pc ls st D' M v h hv
  unfold lf139_0 at h
  by_cases hp0 : pc = 4
  · subst hp0
    rw [if_pos (show (4 : Nat) = 4 from rfl)] at h
    split at h
    · skip
      replace h := sm_dq_inv h
      obtain ⟨he, h⟩ := h
      subst he
      have hv : v = R := hv
      subst hv
      exact w139_4 _ _ _ _ _ h
    · cases h
  · rw [if_neg hp0] at h
    cases h
set_option maxRecDepth 20000 in
set_option maxHeartbeats 4000000 in
theorem we139 (d0 d1 d2 d3 d4 : Nat) {l1 : Int32} {M : sm_M} {R : sm_S} (h : jM_goOn d0 d1 d2 d3 d4 l1 M = some R) : sm_WJ smT smCl smSa shC f139 4 0 [.ref 33, .int l1, .retAddr 0, .retAddr 0] [] [d0, d1, d2, d3, d4] M R := by
  have e : jM_goOn d0 d1 d2 d3 d4 l1 M = (sm_run shC smSa cal139 c139 false (fun a D M => some (a, D, M)) (lf139_0 d0 d1 d2 d3 d4) 28 (c139.drop 0) [.ref 33, .int l1, .retAddr 0, .retAddr 0] [] [d0, d1, d2, d3, d4] M : Option (sm_S)) := rfl
  exact sm_blk (ρ := sm_S) (gd := (fun v => v = R)) (kx := 139) (i := 0) smVC rfl (by decide) ck139 (fun a D M v e1 e2 => by cases e1; exact e2.symm) (ll139_0 d0 d1 d2 d3 d4) rfl (e.symm.trans h) rfl
theorem m139 {d0 d1 d2 d3 d4 : Nat} {l1 : Int32} {M : sm_M} {R : sm_S} (h : jM_goOn d0 d1 d2 d3 d4 l1 M = some R) : sm_MJ smT smCl smSa shC f139 4 [.ref 33, .int l1] [d0, d1, d2, d3, d4] M R :=
  sm_met (by decide) (Nat.le_of_ble_eq_true rfl) (List.all_eq_true.mp rfl) (we139 d0 d1 d2 d3 d4 h)

-- jA_run
noncomputable def cal11  : sm_Cal := fun x as D M =>
  if x = 139 then (match as, D with
    | [.ref 33, .int a1], [e0, e1, e2, e3, e4] => (jM_goOn e0 e1 e2 e3 e4 a1 M)
    | _, _ => none)
  else none
theorem ck11  : sm_CalOk smT smCl smP smSa shC 5 cal11 := by
  intro x g as D M R hx h
  unfold cal11 at h
  by_cases hx' : x = 139
  · subst hx'
    rw [if_pos (show (139 : Nat) = 139 from rfl)] at h
    cases (show smP[139]? = some f139 from rfl).symm.trans hx
    split at h
    · skip
      exact Or.inl ⟨4, by omega, m139   h⟩
    · cases h
  · rw [if_neg hx'] at h
    cases h
set_option maxRecDepth 20000 in
set_option maxHeartbeats 4000000 in
theorem w11_23 (d0 d1 d2 d3 d4 : Nat) {s0 : Int32} {g0 g1 : Value} {M : sm_M} {R : sm_S} (h : jA_run_23 d0 d1 d2 d3 d4 s0 M = some R) : sm_WJ smT smCl smSa shC f11 5 23 [g0, g1] [.int s0] [d0, d1, d2, d3, d4] M R := by
  have e : jA_run_23 d0 d1 d2 d3 d4 s0 M = (sm_run shC smSa cal11 c11 false (fun a D M => some (a, D, M)) sm_noleaf 17 (c11.drop 11) [g0, g1] [.int s0] [d0, d1, d2, d3, d4] M : Option (sm_S)) := rfl
  exact sm_blk (ρ := sm_S) (gd := (fun v => v = R)) (kx := 11) (i := 11) smVC rfl (by decide) ck11 (fun a D M v e1 e2 => by cases e1; exact e2.symm) (sm_noleaf_ok) rfl (e.symm.trans h) rfl
noncomputable def lf11_11 (d0 d1 d2 d3 d4 : Nat) : Nat → List Value → List Value → sm_D → sm_M → Option (sm_S) := fun pc ls st D' M =>
  if pc = 23 then (match ls, st with
    | [gl0, gl1], [.int bs0] => (sm_dq D' [d0, d1, d2, d3, d4] (jA_run_23 d0 d1 d2 d3 d4 bs0 M))
    | _, _ => none)
  else none
theorem ll11_11 (d0 d1 d2 d3 d4 : Nat) {R : sm_S} : ∀ (pc : Nat) (ls st : List Value) (D' : sm_D) (M : sm_M) (v : sm_S), (lf11_11 d0 d1 d2 d3 d4) pc ls st D' M = some v → (fun v => v = R) v → sm_WJ smT smCl smSa shC f11 5 pc ls st D' M R := by
  intro pc ls st D' M v h hv
  unfold lf11_11 at h
  by_cases hp0 : pc = 23
  · subst hp0
    rw [if_pos (show (23 : Nat) = 23 from rfl)] at h
    split at h
    · skip
      replace h := sm_dq_inv h
      obtain ⟨he, h⟩ := h
      subst he
      have hv : v = R := hv
      subst hv
      exact w11_23 _ _ _ _ _ h
    · cases h
  · rw [if_neg hp0] at h
    cases h
set_option maxRecDepth 20000 in
set_option maxHeartbeats 4000000 in
theorem w11_11 (d0 d1 d2 d3 d4 : Nat) {g0 g1 : Value} {M : sm_M} {R : sm_S} (h : jA_run_11 d0 d1 d2 d3 d4 M = some R) : sm_WJ smT smCl smSa shC f11 5 11 [g0, g1] [] [d0, d1, d2, d3, d4] M R := by
  have e : jA_run_11 d0 d1 d2 d3 d4 M = (sm_run shC smSa cal11 c11 false (fun a D M => some (a, D, M)) (lf11_11 d0 d1 d2 d3 d4) 17 (c11.drop 5) [g0, g1] [] [d0, d1, d2, d3, d4] M : Option (sm_S)) := rfl
  exact sm_blk (ρ := sm_S) (gd := (fun v => v = R)) (kx := 11) (i := 5) smVC rfl (by decide) ck11 (fun a D M v e1 e2 => by cases e1; exact e2.symm) (ll11_11 d0 d1 d2 d3 d4) rfl (e.symm.trans h) rfl
noncomputable def lf11_0 (d0 d1 d2 d3 d4 : Nat) : Nat → List Value → List Value → sm_D → sm_M → Option (sm_S) := fun pc ls st D' M =>
  if pc = 11 then (match ls, st with
    | [gl0, gl1], [] => (sm_dq D' [d0, d1, d2, d3, d4] (jA_run_11 d0 d1 d2 d3 d4 M))
    | _, _ => none)
  else if pc = 23 then (match ls, st with
    | [gl0, gl1], [.int bs0] => (sm_dq D' [d0, d1, d2, d3, d4] (jA_run_23 d0 d1 d2 d3 d4 bs0 M))
    | _, _ => none)
  else none
theorem ll11_0 (d0 d1 d2 d3 d4 : Nat) {R : sm_S} : ∀ (pc : Nat) (ls st : List Value) (D' : sm_D) (M : sm_M) (v : sm_S), (lf11_0 d0 d1 d2 d3 d4) pc ls st D' M = some v → (fun v => v = R) v → sm_WJ smT smCl smSa shC f11 5 pc ls st D' M R := by
  intro pc ls st D' M v h hv
  unfold lf11_0 at h
  by_cases hp0 : pc = 11
  · subst hp0
    rw [if_pos (show (11 : Nat) = 11 from rfl)] at h
    split at h
    · skip
      replace h := sm_dq_inv h
      obtain ⟨he, h⟩ := h
      subst he
      have hv : v = R := hv
      subst hv
      exact w11_11 _ _ _ _ _ h
    · cases h
  · rw [if_neg hp0] at h
    by_cases hp0 : pc = 23
    · subst hp0
      rw [if_pos (show (23 : Nat) = 23 from rfl)] at h
      split at h
      · skip
        replace h := sm_dq_inv h
        obtain ⟨he, h⟩ := h
        subst he
        have hv : v = R := hv
        subst hv
        exact w11_23 _ _ _ _ _ h
      · cases h
    · rw [if_neg hp0] at h
      cases h
set_option maxRecDepth 20000 in
set_option maxHeartbeats 4000000 in
theorem we11 (d0 d1 d2 d3 d4 : Nat) {l1 : Int32} {M : sm_M} {R : sm_S} (h : jA_run d0 d1 d2 d3 d4 l1 M = some R) : sm_WJ smT smCl smSa shC f11 5 0 [.ref 60, .int l1] [] [d0, d1, d2, d3, d4] M R := by
  have e : jA_run d0 d1 d2 d3 d4 l1 M = (sm_run shC smSa cal11 c11 false (fun a D M => some (a, D, M)) (lf11_0 d0 d1 d2 d3 d4) 17 (c11.drop 0) [.ref 60, .int l1] [] [d0, d1, d2, d3, d4] M : Option (sm_S)) := rfl
  exact sm_blk (ρ := sm_S) (gd := (fun v => v = R)) (kx := 11) (i := 0) smVC rfl (by decide) ck11 (fun a D M v e1 e2 => by cases e1; exact e2.symm) (ll11_0 d0 d1 d2 d3 d4) rfl (e.symm.trans h) rfl
theorem m11 {d0 d1 d2 d3 d4 : Nat} {l1 : Int32} {M : sm_M} {R : sm_S} (h : jA_run d0 d1 d2 d3 d4 l1 M = some R) : sm_MJ smT smCl smSa shC f11 5 [.ref 60, .int l1] [d0, d1, d2, d3, d4] M R :=
  sm_met (by decide) (Nat.le_of_ble_eq_true rfl) (List.all_eq_true.mp rfl) (we11 d0 d1 d2 d3 d4 h)

-- jA_state
set_option maxRecDepth 20000 in
set_option maxHeartbeats 4000000 in
theorem we12 {D : sm_D} {M : sm_M} {R : sm_S} (h : jA_state D M = some R) : sm_WJ smT smCl smSa shC f12 0 0 [.ref 60] [] D M R := by
  have e : jA_state D M = (sm_run shC smSa sm_nocal c12 false (fun a D M => some (a, D, M)) sm_noleaf 9 (c12.drop 0) [.ref 60] [] D M : Option (sm_S)) := rfl
  exact sm_blk (ρ := sm_S) (gd := (fun v => v = R)) (kx := 12) (i := 0) smVC rfl (by decide) (sm_nocal_ok smT smCl smP smSa shC 0) (fun a D M v e1 e2 => by cases e1; exact e2.symm) (sm_noleaf_ok) rfl (e.symm.trans h) rfl
theorem m12 {D : sm_D} {M : sm_M} {R : sm_S} (h : jA_state D M = some R) : sm_MJ smT smCl smSa shC f12 0 [.ref 60] D M R :=
  sm_met (by decide) (Nat.le_of_ble_eq_true rfl) (List.all_eq_true.mp rfl) (we12  h)

-- jM_tellRegister
set_option maxRecDepth 20000 in
set_option maxHeartbeats 4000000 in
theorem w140_19 {g0 g1 g2 : Value} {D : sm_D} {M : sm_M} {R : sm_S} (h : jM_tellRegister_19 D M = some R) : sm_WJ smT smCl smSa shC f140 0 19 [g0, g1, g2] [] D M R := by
  have e : jM_tellRegister_19 D M = (sm_run shC smSa sm_nocal c140 false (fun a D M => some (a, D, M)) sm_noleaf 30 (c140.drop 11) [g0, g1, g2] [] D M : Option (sm_S)) := rfl
  exact sm_blk (ρ := sm_S) (gd := (fun v => v = R)) (kx := 140) (i := 11) smVC rfl (by decide) (sm_nocal_ok smT smCl smP smSa shC 0) (fun a D M v e1 e2 => by cases e1; exact e2.symm) (sm_noleaf_ok) rfl (e.symm.trans h) rfl
set_option maxRecDepth 20000 in
set_option maxHeartbeats 4000000 in
theorem w140_40 {s0 : Int32} {g0 g1 g2 : Value} {D : sm_D} {M : sm_M} {R : sm_S} (h : jM_tellRegister_40 s0 D M = some R) : sm_WJ smT smCl smSa shC f140 0 40 [g0, g1, g2] [.int s0] D M R := by
  have e : jM_tellRegister_40 s0 D M = (sm_run shC smSa sm_nocal c140 false (fun a D M => some (a, D, M)) sm_noleaf 30 (c140.drop 24) [g0, g1, g2] [.int s0] D M : Option (sm_S)) := rfl
  exact sm_blk (ρ := sm_S) (gd := (fun v => v = R)) (kx := 140) (i := 24) smVC rfl (by decide) (sm_nocal_ok smT smCl smP smSa shC 0) (fun a D M v e1 e2 => by cases e1; exact e2.symm) (sm_noleaf_ok) rfl (e.symm.trans h) rfl
noncomputable def lf140_0 (D : sm_D) : Nat → List Value → List Value → sm_D → sm_M → Option (sm_S) := fun pc ls st D' M =>
  if pc = 19 then (match ls, st with
    | [gl0, gl1, gl2], [] => (jM_tellRegister_19 D' M)
    | _, _ => none)
  else if pc = 40 then (match ls, st with
    | [gl0, gl1, gl2], [.int bs0] => (jM_tellRegister_40 bs0 D' M)
    | _, _ => none)
  else none
theorem ll140_0 (D : sm_D) {R : sm_S} : ∀ (pc : Nat) (ls st : List Value) (D' : sm_D) (M : sm_M) (v : sm_S), (lf140_0 D) pc ls st D' M = some v → (fun v => v = R) v → sm_WJ smT smCl smSa shC f140 0 pc ls st D' M R := by
  intro pc ls st D' M v h hv
  unfold lf140_0 at h
  by_cases hp0 : pc = 19
  · subst hp0
    rw [if_pos (show (19 : Nat) = 19 from rfl)] at h
    split at h
    · skip
      have hv : v = R := hv
      subst hv
      exact w140_19  h
    · cases h
  · rw [if_neg hp0] at h
    by_cases hp0 : pc = 40
    · subst hp0
      rw [if_pos (show (40 : Nat) = 40 from rfl)] at h
      split at h
      · skip
        have hv : v = R := hv
        subst hv
        exact w140_40  h
      · cases h
    · rw [if_neg hp0] at h
      cases h
set_option maxRecDepth 20000 in
set_option maxHeartbeats 4000000 in
theorem we140 {l1 l2 : Int32} {D : sm_D} {M : sm_M} {R : sm_S} (h : jM_tellRegister l1 l2 D M = some R) : sm_WJ smT smCl smSa shC f140 0 0 [.ref 33, .int l1, .int l2] [] D M R := by
  have e : jM_tellRegister l1 l2 D M = (sm_run shC smSa sm_nocal c140 false (fun a D M => some (a, D, M)) (lf140_0 D) 30 (c140.drop 0) [.ref 33, .int l1, .int l2] [] D M : Option (sm_S)) := rfl
  exact sm_blk (ρ := sm_S) (gd := (fun v => v = R)) (kx := 140) (i := 0) smVC rfl (by decide) (sm_nocal_ok smT smCl smP smSa shC 0) (fun a D M v e1 e2 => by cases e1; exact e2.symm) (ll140_0 D) rfl (e.symm.trans h) rfl
theorem m140 {l1 l2 : Int32} {D : sm_D} {M : sm_M} {R : sm_S} (h : jM_tellRegister l1 l2 D M = some R) : sm_MJ smT smCl smSa shC f140 0 [.ref 33, .int l1, .int l2] D M R :=
  sm_met (by decide) (Nat.le_of_ble_eq_true rfl) (List.all_eq_true.mp rfl) (we140  h)

-- jA_register
noncomputable def cal13  : sm_Cal := fun x as D M =>
  if x = 140 then (match as with
    | [.ref 33, .int a1, .int a2] => (jM_tellRegister a1 a2 D M)
    | _ => none)
  else none
theorem ck13  : sm_CalOk smT smCl smP smSa shC 1 cal13 := by
  intro x g as D M R hx h
  unfold cal13 at h
  by_cases hx' : x = 140
  · subst hx'
    rw [if_pos (show (140 : Nat) = 140 from rfl)] at h
    cases (show smP[140]? = some f140 from rfl).symm.trans hx
    split at h
    · skip
      exact Or.inl ⟨0, by omega, m140   h⟩
    · cases h
  · rw [if_neg hx'] at h
    cases h
set_option maxRecDepth 20000 in
set_option maxHeartbeats 4000000 in
theorem we13 {l1 l2 : Int32} {D : sm_D} {M : sm_M} {R : sm_S} (h : jA_register l1 l2 D M = some R) : sm_WJ smT smCl smSa shC f13 1 0 [.ref 60, .int l1, .int l2] [] D M R := by
  have e : jA_register l1 l2 D M = (sm_run shC smSa cal13 c13 false (fun a D M => some (a, D, M)) sm_noleaf 11 (c13.drop 0) [.ref 60, .int l1, .int l2] [] D M : Option (sm_S)) := rfl
  exact sm_blk (ρ := sm_S) (gd := (fun v => v = R)) (kx := 13) (i := 0) smVC rfl (by decide) ck13 (fun a D M v e1 e2 => by cases e1; exact e2.symm) (sm_noleaf_ok) rfl (e.symm.trans h) rfl
theorem m13 {l1 l2 : Int32} {D : sm_D} {M : sm_M} {R : sm_S} (h : jA_register l1 l2 D M = some R) : sm_MJ smT smCl smSa shC f13 1 [.ref 60, .int l1, .int l2] D M R :=
  sm_met (by decide) (Nat.le_of_ble_eq_true rfl) (List.all_eq_true.mp rfl) (we13  h)

-- jW_writeVariable
noncomputable def cal118  : sm_Cal := fun x as D M =>
  if x = 113 then (match as with
    | [.ref q0, .int a1, .int a2, .int a3, .int a4] => (sm_ga [q0] gC (jC_put q0 a1 a2 a3 a4 D M))
    | _ => none)
  else if x = 154 then (match as with
    | [.ref 1, .int a1] => (jT_secondOf a1 D M)
    | _ => none)
  else none
theorem ck118  : sm_CalOk smT smCl smP smSa shC 2 cal118 := by
  intro x g as D M R hx h
  unfold cal118 at h
  by_cases hx' : x = 113
  · subst hx'
    rw [if_pos (show (113 : Nat) = 113 from rfl)] at h
    cases (show smP[113]? = some f113 from rfl).symm.trans hx
    split at h
    · replace h := sm_ga_inv h
      obtain ⟨h1, h⟩ := h
      exact Or.inl ⟨1, by omega, m113  h1 h⟩
    · cases h
  · rw [if_neg hx'] at h
    by_cases hx' : x = 154
    · subst hx'
      rw [if_pos (show (154 : Nat) = 154 from rfl)] at h
      cases (show smP[154]? = some f154 from rfl).symm.trans hx
      split at h
      · skip
        exact Or.inl ⟨1, by omega, m154   h⟩
      · cases h
    · rw [if_neg hx'] at h
      cases h
def lh118_8 (d0 d1 d2 d3 d4 : Nat) (R : sm_S) (s : Int32 × Int32 × Int32 × sm_M) : Prop := ∀ (g1 g2 g6 : Value), sm_WJ smT smCl smSa shC f118 2 8 [.ref 24, g1, g2, .int (s.1), .int (s.2.1), .int (s.2.2.1), g6] [] [d0, d1, d2, d3, d4] (s.2.2.2) R
def gd118_8 (d0 d1 d2 d3 d4 : Nat) (R : sm_S) (v : (Int32 × Int32 × Int32 × sm_M) ⊕ sm_S) : Prop := match v with
  | .inl s => lh118_8 d0 d1 d2 d3 d4 R s
  | .inr r => r = R
noncomputable def lf118_51 (d0 d1 d2 d3 d4 : Nat) : Nat → List Value → List Value → sm_D → sm_M → Option ((Int32 × Int32 × Int32 × sm_M) ⊕ sm_S) := fun pc ls st D' M =>
  if pc = 8 then (match ls, st with
    | [.ref 24, gl1, gl2, .int bl3, .int bl4, .int bl5, gl6], [] => (sm_dq D' [d0, d1, d2, d3, d4] (some (.inl (bl3, bl4, bl5, M))))
    | _, _ => none)
  else none
theorem ll118_51 (d0 d1 d2 d3 d4 : Nat) (hd4 : [d4] ∈ gC) {R : sm_S} : ∀ (pc : Nat) (ls st : List Value) (D' : sm_D) (M : sm_M) (v : (Int32 × Int32 × Int32 × sm_M) ⊕ sm_S), (lf118_51 d0 d1 d2 d3 d4) pc ls st D' M = some v → (gd118_8 d0 d1 d2 d3 d4 R) v → sm_WJ smT smCl smSa shC f118 2 pc ls st D' M R := by
  intro pc ls st D' M v h hv
  unfold lf118_51 at h
  by_cases hp0 : pc = 8
  · subst hp0
    rw [if_pos (show (8 : Nat) = 8 from rfl)] at h
    split at h
    · skip
      replace h := sm_dq_inv h
      obtain ⟨he, h⟩ := h
      subst he
      cases h
      exact hv _ _ _
    · cases h
  · rw [if_neg hp0] at h
    cases h
set_option maxRecDepth 20000 in
set_option maxHeartbeats 4000000 in
theorem w118_51 (d0 d1 d2 d3 d4 : Nat) (hd4 : [d4] ∈ gC) {l3 l5 s0 s1 : Int32} {g1 g2 g4 g6 : Value} {M : sm_M} {R : sm_S} {v : (Int32 × Int32 × Int32 × sm_M) ⊕ sm_S} (h : jW_writeVariable_51 d0 d1 d2 d3 d4 l3 l5 s0 s1 M = some v) (hv : (gd118_8 d0 d1 d2 d3 d4 R) v) : sm_WJ smT smCl smSa shC f118 2 51 [.ref 24, g1, g2, .int l3, g4, .int l5, g6] [.int s1, .int s0] [d0, d1, d2, d3, d4] M R := by
  rcases gC_inv hd4 with rfl | rfl
  · have e : jW_writeVariable_51 d0 d1 d2 d3 40 l3 l5 s0 s1 M = (sm_run shC smSa cal118 c118 false (fun a D M => some (.inr (a, D, M))) (lf118_51 d0 d1 d2 d3 40) 88 (c118.drop 28) [.ref 24, g1, g2, .int l3, g4, .int l5, g6] [.int s1, .int s0] [d0, d1, d2, d3, 40] M : Option ((Int32 × Int32 × Int32 × sm_M) ⊕ sm_S)) := rfl
    exact sm_blk (ρ := (Int32 × Int32 × Int32 × sm_M) ⊕ sm_S) (gd := (gd118_8 d0 d1 d2 d3 40 R)) (kx := 118) (i := 28) smVC rfl (by decide) ck118 (fun a D M v e1 e2 => by cases e1; exact e2.symm) (ll118_51 d0 d1 d2 d3 40 (by decide)) rfl (e.symm.trans h) hv
  · have e : jW_writeVariable_51 d0 d1 d2 d3 50 l3 l5 s0 s1 M = (sm_run shC smSa cal118 c118 false (fun a D M => some (.inr (a, D, M))) (lf118_51 d0 d1 d2 d3 50) 88 (c118.drop 28) [.ref 24, g1, g2, .int l3, g4, .int l5, g6] [.int s1, .int s0] [d0, d1, d2, d3, 50] M : Option ((Int32 × Int32 × Int32 × sm_M) ⊕ sm_S)) := rfl
    exact sm_blk (ρ := (Int32 × Int32 × Int32 × sm_M) ⊕ sm_S) (gd := (gd118_8 d0 d1 d2 d3 50 R)) (kx := 118) (i := 28) smVC rfl (by decide) ck118 (fun a D M v e1 e2 => by cases e1; exact e2.symm) (ll118_51 d0 d1 d2 d3 50 (by decide)) rfl (e.symm.trans h) hv
noncomputable def lf118_35 (d0 d1 d2 d3 d4 : Nat) : Nat → List Value → List Value → sm_D → sm_M → Option ((Int32 × Int32 × Int32 × sm_M) ⊕ sm_S) := fun pc ls st D' M =>
  if pc = 51 then (match ls, st with
    | [.ref 24, gl1, gl2, .int bl3, gl4, .int bl5, gl6], [.int bs1, .int bs0] => (sm_dq D' [d0, d1, d2, d3, d4] (jW_writeVariable_51 d0 d1 d2 d3 d4 bl3 bl5 bs0 bs1 M))
    | _, _ => none)
  else none
theorem ll118_35 (d0 d1 d2 d3 d4 : Nat) (hd4 : [d4] ∈ gC) {R : sm_S} : ∀ (pc : Nat) (ls st : List Value) (D' : sm_D) (M : sm_M) (v : (Int32 × Int32 × Int32 × sm_M) ⊕ sm_S), (lf118_35 d0 d1 d2 d3 d4) pc ls st D' M = some v → (gd118_8 d0 d1 d2 d3 d4 R) v → sm_WJ smT smCl smSa shC f118 2 pc ls st D' M R := by
  intro pc ls st D' M v h hv
  unfold lf118_35 at h
  by_cases hp0 : pc = 51
  · subst hp0
    rw [if_pos (show (51 : Nat) = 51 from rfl)] at h
    split at h
    · skip
      replace h := sm_dq_inv h
      obtain ⟨he, h⟩ := h
      subst he
      exact w118_51 _ _ _ _ _ hd4 h hv
    · cases h
  · rw [if_neg hp0] at h
    cases h
set_option maxRecDepth 20000 in
set_option maxHeartbeats 4000000 in
theorem w118_35 (d0 d1 d2 d3 d4 : Nat) (hd4 : [d4] ∈ gC) {l3 l4 l5 : Int32} {g1 g2 g6 : Value} {M : sm_M} {R : sm_S} {v : (Int32 × Int32 × Int32 × sm_M) ⊕ sm_S} (h : jW_writeVariable_35 d0 d1 d2 d3 d4 l3 l4 l5 M = some v) (hv : (gd118_8 d0 d1 d2 d3 d4 R) v) : sm_WJ smT smCl smSa shC f118 2 35 [.ref 24, g1, g2, .int l3, .int l4, .int l5, g6] [] [d0, d1, d2, d3, d4] M R := by
  rcases gC_inv hd4 with rfl | rfl
  · have e : jW_writeVariable_35 d0 d1 d2 d3 40 l3 l4 l5 M = (sm_run shC smSa cal118 c118 false (fun a D M => some (.inr (a, D, M))) (lf118_35 d0 d1 d2 d3 40) 88 (c118.drop 19) [.ref 24, g1, g2, .int l3, .int l4, .int l5, g6] [] [d0, d1, d2, d3, 40] M : Option ((Int32 × Int32 × Int32 × sm_M) ⊕ sm_S)) := rfl
    exact sm_blk (ρ := (Int32 × Int32 × Int32 × sm_M) ⊕ sm_S) (gd := (gd118_8 d0 d1 d2 d3 40 R)) (kx := 118) (i := 19) smVC rfl (by decide) ck118 (fun a D M v e1 e2 => by cases e1; exact e2.symm) (ll118_35 d0 d1 d2 d3 40 (by decide)) rfl (e.symm.trans h) hv
  · have e : jW_writeVariable_35 d0 d1 d2 d3 50 l3 l4 l5 M = (sm_run shC smSa cal118 c118 false (fun a D M => some (.inr (a, D, M))) (lf118_35 d0 d1 d2 d3 50) 88 (c118.drop 19) [.ref 24, g1, g2, .int l3, .int l4, .int l5, g6] [] [d0, d1, d2, d3, 50] M : Option ((Int32 × Int32 × Int32 × sm_M) ⊕ sm_S)) := rfl
    exact sm_blk (ρ := (Int32 × Int32 × Int32 × sm_M) ⊕ sm_S) (gd := (gd118_8 d0 d1 d2 d3 50 R)) (kx := 118) (i := 19) smVC rfl (by decide) ck118 (fun a D M v e1 e2 => by cases e1; exact e2.symm) (ll118_35 d0 d1 d2 d3 50 (by decide)) rfl (e.symm.trans h) hv
set_option maxRecDepth 20000 in
set_option maxHeartbeats 4000000 in
theorem w118_135 (d0 d1 d2 d3 d4 : Nat) (hd4 : [d4] ∈ gC) {l3 : Int32} {g1 g2 g4 g5 g6 : Value} {M : sm_M} {R : sm_S} (h : jW_writeVariable_135 d0 d1 d2 d3 d4 l3 M = some R) : sm_WJ smT smCl smSa shC f118 2 135 [.ref 24, g1, g2, .int l3, g4, g5, g6] [] [d0, d1, d2, d3, d4] M R := by
  rcases gC_inv hd4 with rfl | rfl
  · have e : jW_writeVariable_135 d0 d1 d2 d3 40 l3 M = (sm_run shC smSa cal118 c118 false (fun a D M => some (a, D, M)) sm_noleaf 88 (c118.drop 75) [.ref 24, g1, g2, .int l3, g4, g5, g6] [] [d0, d1, d2, d3, 40] M : Option (sm_S)) := rfl
    exact sm_blk (ρ := sm_S) (gd := (fun v => v = R)) (kx := 118) (i := 75) smVC rfl (by decide) ck118 (fun a D M v e1 e2 => by cases e1; exact e2.symm) (sm_noleaf_ok) rfl (e.symm.trans h) rfl
  · have e : jW_writeVariable_135 d0 d1 d2 d3 50 l3 M = (sm_run shC smSa cal118 c118 false (fun a D M => some (a, D, M)) sm_noleaf 88 (c118.drop 75) [.ref 24, g1, g2, .int l3, g4, g5, g6] [] [d0, d1, d2, d3, 50] M : Option (sm_S)) := rfl
    exact sm_blk (ρ := sm_S) (gd := (fun v => v = R)) (kx := 118) (i := 75) smVC rfl (by decide) ck118 (fun a D M v e1 e2 => by cases e1; exact e2.symm) (sm_noleaf_ok) rfl (e.symm.trans h) rfl
def lh118_100 (d0 d1 d2 d3 d4 : Nat) (R : sm_S) (s : Int32 × Int32 × Int32 × sm_M) : Prop := ∀ (g1 g2 g4 : Value), sm_WJ smT smCl smSa shC f118 2 100 [.ref 24, g1, g2, .int (s.1), g4, .int (s.2.1), .int (s.2.2.1)] [] [d0, d1, d2, d3, d4] (s.2.2.2) R
def gd118_100 (d0 d1 d2 d3 d4 : Nat) (R : sm_S) (v : (Int32 × Int32 × Int32 × sm_M) ⊕ sm_S) : Prop := match v with
  | .inl s => lh118_100 d0 d1 d2 d3 d4 R s
  | .inr r => r = R
noncomputable def lf118_100 (d0 d1 d2 d3 d4 : Nat) : Nat → List Value → List Value → sm_D → sm_M → Option ((Int32 × Int32 × Int32 × sm_M) ⊕ sm_S) := fun pc ls st D' M =>
  if pc = 100 then (match ls, st with
    | [.ref 24, gl1, gl2, .int bl3, gl4, .int bl5, .int bl6], [] => (sm_dq D' [d0, d1, d2, d3, d4] (some (.inl (bl3, bl5, bl6, M))))
    | _, _ => none)
  else if pc = 135 then (match ls, st with
    | [.ref 24, gl1, gl2, .int bl3, gl4, gl5, gl6], [] => (sm_dq D' [d0, d1, d2, d3, d4] (sm_inr (jW_writeVariable_135 d0 d1 d2 d3 d4 bl3 M)))
    | _, _ => none)
  else none
theorem ll118_100 (d0 d1 d2 d3 d4 : Nat) (hd4 : [d4] ∈ gC) {R : sm_S} : ∀ (pc : Nat) (ls st : List Value) (D' : sm_D) (M : sm_M) (v : (Int32 × Int32 × Int32 × sm_M) ⊕ sm_S), (lf118_100 d0 d1 d2 d3 d4) pc ls st D' M = some v → (gd118_100 d0 d1 d2 d3 d4 R) v → sm_WJ smT smCl smSa shC f118 2 pc ls st D' M R := by
  intro pc ls st D' M v h hv
  unfold lf118_100 at h
  by_cases hp0 : pc = 100
  · subst hp0
    rw [if_pos (show (100 : Nat) = 100 from rfl)] at h
    split at h
    · skip
      replace h := sm_dq_inv h
      obtain ⟨he, h⟩ := h
      subst he
      cases h
      exact hv _ _ _
    · cases h
  · rw [if_neg hp0] at h
    by_cases hp0 : pc = 135
    · subst hp0
      rw [if_pos (show (135 : Nat) = 135 from rfl)] at h
      split at h
      · skip
        replace h := sm_dq_inv h
        obtain ⟨he, h⟩ := h
        subst he
        replace h := sm_inr_inv h
        obtain ⟨r, h, he⟩ := h
        subst he
        have hv : r = R := hv
        subst hv
        exact w118_135 _ _ _ _ _ hd4 h
      · cases h
    · rw [if_neg hp0] at h
      cases h
set_option maxRecDepth 20000 in
set_option maxHeartbeats 4000000 in
theorem wc118_100 (d0 d1 d2 d3 d4 : Nat) (hd4 : [d4] ∈ gC) {l3 l5 l6 : Int32} {g1 g2 g4 : Value} {M : sm_M} {R : sm_S} {v : (Int32 × Int32 × Int32 × sm_M) ⊕ sm_S} (h : jW_writeVariable_100_c d0 d1 d2 d3 d4 l3 l5 l6 M = some v) (hv : (gd118_100 d0 d1 d2 d3 d4 R) v) : sm_WJ smT smCl smSa shC f118 2 100 [.ref 24, g1, g2, .int l3, g4, .int l5, .int l6] [] [d0, d1, d2, d3, d4] M R := by
  rcases gC_inv hd4 with rfl | rfl
  · have e : jW_writeVariable_100_c d0 d1 d2 d3 40 l3 l5 l6 M = (sm_run shC smSa cal118 c118 false (fun a D M => some (.inr (a, D, M))) (lf118_100 d0 d1 d2 d3 40) 88 (c118.drop 56) [.ref 24, g1, g2, .int l3, g4, .int l5, .int l6] [] [d0, d1, d2, d3, 40] M : Option ((Int32 × Int32 × Int32 × sm_M) ⊕ sm_S)) := rfl
    exact sm_blk (ρ := (Int32 × Int32 × Int32 × sm_M) ⊕ sm_S) (gd := (gd118_100 d0 d1 d2 d3 40 R)) (kx := 118) (i := 56) smVC rfl (by decide) ck118 (fun a D M v e1 e2 => by cases e1; exact e2.symm) (ll118_100 d0 d1 d2 d3 40 (by decide)) rfl (e.symm.trans h) hv
  · have e : jW_writeVariable_100_c d0 d1 d2 d3 50 l3 l5 l6 M = (sm_run shC smSa cal118 c118 false (fun a D M => some (.inr (a, D, M))) (lf118_100 d0 d1 d2 d3 50) 88 (c118.drop 56) [.ref 24, g1, g2, .int l3, g4, .int l5, .int l6] [] [d0, d1, d2, d3, 50] M : Option ((Int32 × Int32 × Int32 × sm_M) ⊕ sm_S)) := rfl
    exact sm_blk (ρ := (Int32 × Int32 × Int32 × sm_M) ⊕ sm_S) (gd := (gd118_100 d0 d1 d2 d3 50 R)) (kx := 118) (i := 56) smVC rfl (by decide) ck118 (fun a D M v e1 e2 => by cases e1; exact e2.symm) (ll118_100 d0 d1 d2 d3 50 (by decide)) rfl (e.symm.trans h) hv
theorem w118_100 (d0 d1 d2 d3 d4 : Nat) (hd4 : [d4] ∈ gC) {l3 l5 l6 : Int32} {g1 g2 g4 : Value} {M : sm_M} {R : sm_S} (h : jW_writeVariable_100 d0 d1 d2 d3 d4 l3 l5 l6 M = some R) : sm_WJ smT smCl smSa shC f118 2 100 [.ref 24, g1, g2, .int l3, g4, .int l5, .int l6] [] [d0, d1, d2, d3, d4] M R := by
  have hh : lh118_100 d0 d1 d2 d3 d4 R (l3, l5, l6, M) := by
    refine sm_lp_ind (b := jW_writeVariable_100_b d0 d1 d2 d3 d4) (r := R) (lh118_100 d0 d1 d2 d3 d4 R) ?_ h
    intro s v hb h1 h2
    obtain ⟨z0, z1, z2, M1⟩ := s
    have hv : gd118_100 d0 d1 d2 d3 d4 R v := by
      cases v with
      | inl s' => exact h1 s' rfl
      | inr r => exact h2 r rfl
    intro g1 g2 g4
    exact wc118_100 d0 d1 d2 d3 d4 hd4 hb hv
  exact hh _ _ _
noncomputable def lf118_67 (d0 d1 d2 d3 d4 : Nat) : Nat → List Value → List Value → sm_D → sm_M → Option (sm_S) := fun pc ls st D' M =>
  if pc = 100 then (match ls, st with
    | [.ref 24, gl1, gl2, .int bl3, gl4, .int bl5, .int bl6], [] => (sm_dq D' [d0, d1, d2, d3, d4] (jW_writeVariable_100 d0 d1 d2 d3 d4 bl3 bl5 bl6 M))
    | _, _ => none)
  else if pc = 135 then (match ls, st with
    | [.ref 24, gl1, gl2, .int bl3, gl4, gl5, gl6], [] => (sm_dq D' [d0, d1, d2, d3, d4] (jW_writeVariable_135 d0 d1 d2 d3 d4 bl3 M))
    | _, _ => none)
  else none
theorem ll118_67 (d0 d1 d2 d3 d4 : Nat) (hd4 : [d4] ∈ gC) {R : sm_S} : ∀ (pc : Nat) (ls st : List Value) (D' : sm_D) (M : sm_M) (v : sm_S), (lf118_67 d0 d1 d2 d3 d4) pc ls st D' M = some v → (fun v => v = R) v → sm_WJ smT smCl smSa shC f118 2 pc ls st D' M R := by
  intro pc ls st D' M v h hv
  unfold lf118_67 at h
  by_cases hp0 : pc = 100
  · subst hp0
    rw [if_pos (show (100 : Nat) = 100 from rfl)] at h
    split at h
    · skip
      replace h := sm_dq_inv h
      obtain ⟨he, h⟩ := h
      subst he
      have hv : v = R := hv
      subst hv
      exact w118_100 _ _ _ _ _ hd4 h
    · cases h
  · rw [if_neg hp0] at h
    by_cases hp0 : pc = 135
    · subst hp0
      rw [if_pos (show (135 : Nat) = 135 from rfl)] at h
      split at h
      · skip
        replace h := sm_dq_inv h
        obtain ⟨he, h⟩ := h
        subst he
        have hv : v = R := hv
        subst hv
        exact w118_135 _ _ _ _ _ hd4 h
      · cases h
    · rw [if_neg hp0] at h
      cases h
set_option maxRecDepth 20000 in
set_option maxHeartbeats 4000000 in
theorem w118_67 (d0 d1 d2 d3 d4 : Nat) (hd4 : [d4] ∈ gC) {l3 l5 : Int32} {g1 g2 g4 g6 : Value} {M : sm_M} {R : sm_S} (h : jW_writeVariable_67 d0 d1 d2 d3 d4 l3 l5 M = some R) : sm_WJ smT smCl smSa shC f118 2 67 [.ref 24, g1, g2, .int l3, g4, .int l5, g6] [] [d0, d1, d2, d3, d4] M R := by
  rcases gC_inv hd4 with rfl | rfl
  · have e : jW_writeVariable_67 d0 d1 d2 d3 40 l3 l5 M = (sm_run shC smSa cal118 c118 false (fun a D M => some (a, D, M)) (lf118_67 d0 d1 d2 d3 40) 88 (c118.drop 37) [.ref 24, g1, g2, .int l3, g4, .int l5, g6] [] [d0, d1, d2, d3, 40] M : Option (sm_S)) := rfl
    exact sm_blk (ρ := sm_S) (gd := (fun v => v = R)) (kx := 118) (i := 37) smVC rfl (by decide) ck118 (fun a D M v e1 e2 => by cases e1; exact e2.symm) (ll118_67 d0 d1 d2 d3 40 (by decide)) rfl (e.symm.trans h) rfl
  · have e : jW_writeVariable_67 d0 d1 d2 d3 50 l3 l5 M = (sm_run shC smSa cal118 c118 false (fun a D M => some (a, D, M)) (lf118_67 d0 d1 d2 d3 50) 88 (c118.drop 37) [.ref 24, g1, g2, .int l3, g4, .int l5, g6] [] [d0, d1, d2, d3, 50] M : Option (sm_S)) := rfl
    exact sm_blk (ρ := sm_S) (gd := (fun v => v = R)) (kx := 118) (i := 37) smVC rfl (by decide) ck118 (fun a D M v e1 e2 => by cases e1; exact e2.symm) (ll118_67 d0 d1 d2 d3 50 (by decide)) rfl (e.symm.trans h) rfl
noncomputable def lf118_8 (d0 d1 d2 d3 d4 : Nat) : Nat → List Value → List Value → sm_D → sm_M → Option ((Int32 × Int32 × Int32 × sm_M) ⊕ sm_S) := fun pc ls st D' M =>
  if pc = 35 then (match ls, st with
    | [.ref 24, gl1, gl2, .int bl3, .int bl4, .int bl5, gl6], [] => (sm_dq D' [d0, d1, d2, d3, d4] (jW_writeVariable_35 d0 d1 d2 d3 d4 bl3 bl4 bl5 M))
    | _, _ => none)
  else if pc = 67 then (match ls, st with
    | [.ref 24, gl1, gl2, .int bl3, gl4, .int bl5, gl6], [] => (sm_dq D' [d0, d1, d2, d3, d4] (sm_inr (jW_writeVariable_67 d0 d1 d2 d3 d4 bl3 bl5 M)))
    | _, _ => none)
  else none
theorem ll118_8 (d0 d1 d2 d3 d4 : Nat) (hd4 : [d4] ∈ gC) {R : sm_S} : ∀ (pc : Nat) (ls st : List Value) (D' : sm_D) (M : sm_M) (v : (Int32 × Int32 × Int32 × sm_M) ⊕ sm_S), (lf118_8 d0 d1 d2 d3 d4) pc ls st D' M = some v → (gd118_8 d0 d1 d2 d3 d4 R) v → sm_WJ smT smCl smSa shC f118 2 pc ls st D' M R := by
  intro pc ls st D' M v h hv
  unfold lf118_8 at h
  by_cases hp0 : pc = 35
  · subst hp0
    rw [if_pos (show (35 : Nat) = 35 from rfl)] at h
    split at h
    · skip
      replace h := sm_dq_inv h
      obtain ⟨he, h⟩ := h
      subst he
      exact w118_35 _ _ _ _ _ hd4 h hv
    · cases h
  · rw [if_neg hp0] at h
    by_cases hp0 : pc = 67
    · subst hp0
      rw [if_pos (show (67 : Nat) = 67 from rfl)] at h
      split at h
      · skip
        replace h := sm_dq_inv h
        obtain ⟨he, h⟩ := h
        subst he
        replace h := sm_inr_inv h
        obtain ⟨r, h, he⟩ := h
        subst he
        have hv : r = R := hv
        subst hv
        exact w118_67 _ _ _ _ _ hd4 h
      · cases h
    · rw [if_neg hp0] at h
      cases h
set_option maxRecDepth 20000 in
set_option maxHeartbeats 4000000 in
theorem wc118_8 (d0 d1 d2 d3 d4 : Nat) (hd4 : [d4] ∈ gC) {l3 l4 l5 : Int32} {g1 g2 g6 : Value} {M : sm_M} {R : sm_S} {v : (Int32 × Int32 × Int32 × sm_M) ⊕ sm_S} (h : jW_writeVariable_8_c d0 d1 d2 d3 d4 l3 l4 l5 M = some v) (hv : (gd118_8 d0 d1 d2 d3 d4 R) v) : sm_WJ smT smCl smSa shC f118 2 8 [.ref 24, g1, g2, .int l3, .int l4, .int l5, g6] [] [d0, d1, d2, d3, d4] M R := by
  rcases gC_inv hd4 with rfl | rfl
  · have e : jW_writeVariable_8_c d0 d1 d2 d3 40 l3 l4 l5 M = (sm_run shC smSa cal118 c118 false (fun a D M => some (.inr (a, D, M))) (lf118_8 d0 d1 d2 d3 40) 88 (c118.drop 6) [.ref 24, g1, g2, .int l3, .int l4, .int l5, g6] [] [d0, d1, d2, d3, 40] M : Option ((Int32 × Int32 × Int32 × sm_M) ⊕ sm_S)) := rfl
    exact sm_blk (ρ := (Int32 × Int32 × Int32 × sm_M) ⊕ sm_S) (gd := (gd118_8 d0 d1 d2 d3 40 R)) (kx := 118) (i := 6) smVC rfl (by decide) ck118 (fun a D M v e1 e2 => by cases e1; exact e2.symm) (ll118_8 d0 d1 d2 d3 40 (by decide)) rfl (e.symm.trans h) hv
  · have e : jW_writeVariable_8_c d0 d1 d2 d3 50 l3 l4 l5 M = (sm_run shC smSa cal118 c118 false (fun a D M => some (.inr (a, D, M))) (lf118_8 d0 d1 d2 d3 50) 88 (c118.drop 6) [.ref 24, g1, g2, .int l3, .int l4, .int l5, g6] [] [d0, d1, d2, d3, 50] M : Option ((Int32 × Int32 × Int32 × sm_M) ⊕ sm_S)) := rfl
    exact sm_blk (ρ := (Int32 × Int32 × Int32 × sm_M) ⊕ sm_S) (gd := (gd118_8 d0 d1 d2 d3 50 R)) (kx := 118) (i := 6) smVC rfl (by decide) ck118 (fun a D M v e1 e2 => by cases e1; exact e2.symm) (ll118_8 d0 d1 d2 d3 50 (by decide)) rfl (e.symm.trans h) hv
theorem w118_8 (d0 d1 d2 d3 d4 : Nat) (hd4 : [d4] ∈ gC) {l3 l4 l5 : Int32} {g1 g2 g6 : Value} {M : sm_M} {R : sm_S} (h : jW_writeVariable_8 d0 d1 d2 d3 d4 l3 l4 l5 M = some R) : sm_WJ smT smCl smSa shC f118 2 8 [.ref 24, g1, g2, .int l3, .int l4, .int l5, g6] [] [d0, d1, d2, d3, d4] M R := by
  have hh : lh118_8 d0 d1 d2 d3 d4 R (l3, l4, l5, M) := by
    refine sm_lp_ind (b := jW_writeVariable_8_b d0 d1 d2 d3 d4) (r := R) (lh118_8 d0 d1 d2 d3 d4 R) ?_ h
    intro s v hb h1 h2
    obtain ⟨z0, z1, z2, M1⟩ := s
    have hv : gd118_8 d0 d1 d2 d3 d4 R v := by
      cases v with
      | inl s' => exact h1 s' rfl
      | inr r => exact h2 r rfl
    intro g1 g2 g6
    exact wc118_8 d0 d1 d2 d3 d4 hd4 hb hv
  exact hh _ _ _
noncomputable def lf118_0 (d0 d1 d2 d3 d4 : Nat) : Nat → List Value → List Value → sm_D → sm_M → Option (sm_S) := fun pc ls st D' M =>
  if pc = 8 then (match ls, st with
    | [.ref 24, gl1, gl2, .int bl3, .int bl4, .int bl5, gl6], [] => (sm_dq D' [d0, d1, d2, d3, d4] (jW_writeVariable_8 d0 d1 d2 d3 d4 bl3 bl4 bl5 M))
    | _, _ => none)
  else none
theorem ll118_0 (d0 d1 d2 d3 d4 : Nat) (hd4 : [d4] ∈ gC) {R : sm_S} : ∀ (pc : Nat) (ls st : List Value) (D' : sm_D) (M : sm_M) (v : sm_S), (lf118_0 d0 d1 d2 d3 d4) pc ls st D' M = some v → (fun v => v = R) v → sm_WJ smT smCl smSa shC f118 2 pc ls st D' M R := by
  intro pc ls st D' M v h hv
  unfold lf118_0 at h
  by_cases hp0 : pc = 8
  · subst hp0
    rw [if_pos (show (8 : Nat) = 8 from rfl)] at h
    split at h
    · skip
      replace h := sm_dq_inv h
      obtain ⟨he, h⟩ := h
      subst he
      have hv : v = R := hv
      subst hv
      exact w118_8 _ _ _ _ _ hd4 h
    · cases h
  · rw [if_neg hp0] at h
    cases h
set_option maxRecDepth 20000 in
set_option maxHeartbeats 4000000 in
theorem we118 (d0 d1 d2 d3 d4 : Nat) (hd4 : [d4] ∈ gC) {l1 l2 : Int32} {M : sm_M} {R : sm_S} (h : jW_writeVariable d0 d1 d2 d3 d4 l1 l2 M = some R) : sm_WJ smT smCl smSa shC f118 2 0 [.ref 24, .int l1, .int l2, .retAddr 0, .retAddr 0, .retAddr 0, .retAddr 0] [] [d0, d1, d2, d3, d4] M R := by
  rcases gC_inv hd4 with rfl | rfl
  · have e : jW_writeVariable d0 d1 d2 d3 40 l1 l2 M = (sm_run shC smSa cal118 c118 false (fun a D M => some (a, D, M)) (lf118_0 d0 d1 d2 d3 40) 88 (c118.drop 0) [.ref 24, .int l1, .int l2, .retAddr 0, .retAddr 0, .retAddr 0, .retAddr 0] [] [d0, d1, d2, d3, 40] M : Option (sm_S)) := rfl
    exact sm_blk (ρ := sm_S) (gd := (fun v => v = R)) (kx := 118) (i := 0) smVC rfl (by decide) ck118 (fun a D M v e1 e2 => by cases e1; exact e2.symm) (ll118_0 d0 d1 d2 d3 40 (by decide)) rfl (e.symm.trans h) rfl
  · have e : jW_writeVariable d0 d1 d2 d3 50 l1 l2 M = (sm_run shC smSa cal118 c118 false (fun a D M => some (a, D, M)) (lf118_0 d0 d1 d2 d3 50) 88 (c118.drop 0) [.ref 24, .int l1, .int l2, .retAddr 0, .retAddr 0, .retAddr 0, .retAddr 0] [] [d0, d1, d2, d3, 50] M : Option (sm_S)) := rfl
    exact sm_blk (ρ := sm_S) (gd := (fun v => v = R)) (kx := 118) (i := 0) smVC rfl (by decide) ck118 (fun a D M v e1 e2 => by cases e1; exact e2.symm) (ll118_0 d0 d1 d2 d3 50 (by decide)) rfl (e.symm.trans h) rfl
theorem m118 {d0 d1 d2 d3 d4 : Nat} (hd4 : [d4] ∈ gC) {l1 l2 : Int32} {M : sm_M} {R : sm_S} (h : jW_writeVariable d0 d1 d2 d3 d4 l1 l2 M = some R) : sm_MJ smT smCl smSa shC f118 2 [.ref 24, .int l1, .int l2] [d0, d1, d2, d3, d4] M R :=
  sm_met (by decide) (Nat.le_of_ble_eq_true rfl) (List.all_eq_true.mp rfl) (we118 d0 d1 d2 d3 d4 hd4 h)

-- jW_writeChoice
noncomputable def cal122 (rec : Nat → Nat → Nat → Nat → Nat → Int32 → Int32 → sm_M → Option sm_S) : sm_Cal := fun x as D M =>
  if x = 117 then (match as, D with
    | [.ref 24, .int a1, .int a2], [e0, e1, e2, e3, e4] => (sm_ga [e4] gC (rec e0 e1 e2 e3 e4 a1 a2 M))
    | _, _ => none)
  else if x = 108 then (match as with
    | [.ref q0] => (sm_ga [q0] gC (jC_reserve q0 D M))
    | _ => none)
  else if x = 113 then (match as with
    | [.ref q0, .int a1, .int a2, .int a3, .int a4] => (sm_ga [q0] gC (jC_put q0 a1 a2 a3 a4 D M))
    | _ => none)
  else if x = 109 then (match as with
    | [.ref q0, .int a1, .int a2, .int a3, .int a4] => (sm_ga [q0] gC (jC_open q0 a1 a2 a3 a4 D M))
    | _ => none)
  else none
theorem ck122 (rec : Nat → Nat → Nat → Nat → Nat → Int32 → Int32 → sm_M → Option sm_S) (dr : Nat) (hrec : ∀ (d0 d1 d2 d3 d4 : Nat) (l1 l2 : Int32) (M : sm_M) (R : sm_S), [d4] ∈ gC → rec d0 d1 d2 d3 d4 l1 l2 M = some R → sm_MJ smT smCl smSa shC f117 dr [.ref 24, .int l1, .int l2] [d0, d1, d2, d3, d4] M R) : sm_CalOk smT smCl smP smSa shC (dr + 3) (cal122 rec) := by
  intro x g as D M R hx h
  unfold cal122 at h
  by_cases hx' : x = 117
  · subst hx'
    rw [if_pos (show (117 : Nat) = 117 from rfl)] at h
    cases (show smP[117]? = some f117 from rfl).symm.trans hx
    split at h
    · replace h := sm_ga_inv h
      obtain ⟨h1, h⟩ := h
      exact Or.inl ⟨dr, by omega, hrec _ _ _ _ _ _ _ _ _ h1 h⟩
    · cases h
  · rw [if_neg hx'] at h
    by_cases hx' : x = 108
    · subst hx'
      rw [if_pos (show (108 : Nat) = 108 from rfl)] at h
      cases (show smP[108]? = some f108 from rfl).symm.trans hx
      split at h
      · replace h := sm_ga_inv h
        obtain ⟨h1, h⟩ := h
        exact Or.inl ⟨0, by omega, m108  h1 h⟩
      · cases h
    · rw [if_neg hx'] at h
      by_cases hx' : x = 113
      · subst hx'
        rw [if_pos (show (113 : Nat) = 113 from rfl)] at h
        cases (show smP[113]? = some f113 from rfl).symm.trans hx
        split at h
        · replace h := sm_ga_inv h
          obtain ⟨h1, h⟩ := h
          exact Or.inl ⟨1, by omega, m113  h1 h⟩
        · cases h
      · rw [if_neg hx'] at h
        by_cases hx' : x = 109
        · subst hx'
          rw [if_pos (show (109 : Nat) = 109 from rfl)] at h
          cases (show smP[109]? = some f109 from rfl).symm.trans hx
          split at h
          · replace h := sm_ga_inv h
            obtain ⟨h1, h⟩ := h
            exact Or.inl ⟨2, by omega, m109  h1 h⟩
          · cases h
        · rw [if_neg hx'] at h
          cases h
set_option maxRecDepth 20000 in
set_option maxHeartbeats 4000000 in
theorem we122 (rec : Nat → Nat → Nat → Nat → Nat → Int32 → Int32 → sm_M → Option sm_S) (dr : Nat) (hrec : ∀ (d0 d1 d2 d3 d4 : Nat) (l1 l2 : Int32) (M : sm_M) (R : sm_S), [d4] ∈ gC → rec d0 d1 d2 d3 d4 l1 l2 M = some R → sm_MJ smT smCl smSa shC f117 dr [.ref 24, .int l1, .int l2] [d0, d1, d2, d3, d4] M R) (d0 d1 d2 d3 d4 : Nat) (hd4 : [d4] ∈ gC) {l1 l2 : Int32} {M : sm_M} {R : sm_S} (h : jW_writeChoice rec d0 d1 d2 d3 d4 l1 l2 M = some R) : sm_WJ smT smCl smSa shC f122 (dr + 3) 0 [.ref 24, .int l1, .int l2, .retAddr 0, .retAddr 0, .retAddr 0, .retAddr 0] [] [d0, d1, d2, d3, d4] M R := by
  rcases gC_inv hd4 with rfl | rfl
  · have e : jW_writeChoice rec d0 d1 d2 d3 40 l1 l2 M = (sm_run shC smSa (cal122 rec) c122 false (fun a D M => some (a, D, M)) sm_noleaf 82 (c122.drop 0) [.ref 24, .int l1, .int l2, .retAddr 0, .retAddr 0, .retAddr 0, .retAddr 0] [] [d0, d1, d2, d3, 40] M : Option (sm_S)) := rfl
    exact sm_blk (ρ := sm_S) (gd := (fun v => v = R)) (kx := 122) (i := 0) smVC rfl (by decide) (ck122 rec dr hrec) (fun a D M v e1 e2 => by cases e1; exact e2.symm) (sm_noleaf_ok) rfl (e.symm.trans h) rfl
  · have e : jW_writeChoice rec d0 d1 d2 d3 50 l1 l2 M = (sm_run shC smSa (cal122 rec) c122 false (fun a D M => some (a, D, M)) sm_noleaf 82 (c122.drop 0) [.ref 24, .int l1, .int l2, .retAddr 0, .retAddr 0, .retAddr 0, .retAddr 0] [] [d0, d1, d2, d3, 50] M : Option (sm_S)) := rfl
    exact sm_blk (ρ := sm_S) (gd := (fun v => v = R)) (kx := 122) (i := 0) smVC rfl (by decide) (ck122 rec dr hrec) (fun a D M v e1 e2 => by cases e1; exact e2.symm) (sm_noleaf_ok) rfl (e.symm.trans h) rfl
theorem m122 (rec : Nat → Nat → Nat → Nat → Nat → Int32 → Int32 → sm_M → Option sm_S) (dr : Nat) (hrec : ∀ (d0 d1 d2 d3 d4 : Nat) (l1 l2 : Int32) (M : sm_M) (R : sm_S), [d4] ∈ gC → rec d0 d1 d2 d3 d4 l1 l2 M = some R → sm_MJ smT smCl smSa shC f117 dr [.ref 24, .int l1, .int l2] [d0, d1, d2, d3, d4] M R) {d0 d1 d2 d3 d4 : Nat} (hd4 : [d4] ∈ gC) {l1 l2 : Int32} {M : sm_M} {R : sm_S} (h : jW_writeChoice rec d0 d1 d2 d3 d4 l1 l2 M = some R) : sm_MJ smT smCl smSa shC f122 (dr + 3) [.ref 24, .int l1, .int l2] [d0, d1, d2, d3, d4] M R :=
  sm_met (by decide) (Nat.le_of_ble_eq_true rfl) (List.all_eq_true.mp rfl) (we122 rec dr hrec d0 d1 d2 d3 d4 hd4 h)

-- jW_writeLambda
noncomputable def cal123  : sm_Cal := fun x as D M =>
  if x = 108 then (match as with
    | [.ref q0] => (sm_ga [q0] gC (jC_reserve q0 D M))
    | _ => none)
  else if x = 113 then (match as with
    | [.ref q0, .int a1, .int a2, .int a3, .int a4] => (sm_ga [q0] gC (jC_put q0 a1 a2 a3 a4 D M))
    | _ => none)
  else none
theorem ck123  : sm_CalOk smT smCl smP smSa shC 2 cal123 := by
  intro x g as D M R hx h
  unfold cal123 at h
  by_cases hx' : x = 108
  · subst hx'
    rw [if_pos (show (108 : Nat) = 108 from rfl)] at h
    cases (show smP[108]? = some f108 from rfl).symm.trans hx
    split at h
    · replace h := sm_ga_inv h
      obtain ⟨h1, h⟩ := h
      exact Or.inl ⟨0, by omega, m108  h1 h⟩
    · cases h
  · rw [if_neg hx'] at h
    by_cases hx' : x = 113
    · subst hx'
      rw [if_pos (show (113 : Nat) = 113 from rfl)] at h
      cases (show smP[113]? = some f113 from rfl).symm.trans hx
      split at h
      · replace h := sm_ga_inv h
        obtain ⟨h1, h⟩ := h
        exact Or.inl ⟨1, by omega, m113  h1 h⟩
      · cases h
    · rw [if_neg hx'] at h
      cases h
set_option maxRecDepth 20000 in
set_option maxHeartbeats 4000000 in
theorem w123_58 (d0 d1 d2 d3 d4 : Nat) (hd4 : [d4] ∈ gC) {l1 l3 : Int32} {g2 : Value} {M : sm_M} {R : sm_S} (h : jW_writeLambda_58 d0 d1 d2 d3 d4 l1 l3 M = some R) : sm_WJ smT smCl smSa shC f123 2 58 [.ref 24, .int l1, g2, .int l3] [] [d0, d1, d2, d3, d4] M R := by
  rcases gC_inv hd4 with rfl | rfl
  · have e : jW_writeLambda_58 d0 d1 d2 d3 40 l1 l3 M = (sm_run shC smSa cal123 c123 false (fun a D M => some (a, D, M)) sm_noleaf 68 (c123.drop 32) [.ref 24, .int l1, g2, .int l3] [] [d0, d1, d2, d3, 40] M : Option (sm_S)) := rfl
    exact sm_blk (ρ := sm_S) (gd := (fun v => v = R)) (kx := 123) (i := 32) smVC rfl (by decide) ck123 (fun a D M v e1 e2 => by cases e1; exact e2.symm) (sm_noleaf_ok) rfl (e.symm.trans h) rfl
  · have e : jW_writeLambda_58 d0 d1 d2 d3 50 l1 l3 M = (sm_run shC smSa cal123 c123 false (fun a D M => some (a, D, M)) sm_noleaf 68 (c123.drop 32) [.ref 24, .int l1, g2, .int l3] [] [d0, d1, d2, d3, 50] M : Option (sm_S)) := rfl
    exact sm_blk (ρ := sm_S) (gd := (fun v => v = R)) (kx := 123) (i := 32) smVC rfl (by decide) ck123 (fun a D M v e1 e2 => by cases e1; exact e2.symm) (sm_noleaf_ok) rfl (e.symm.trans h) rfl
noncomputable def lf123_0 (d0 d1 d2 d3 d4 : Nat) : Nat → List Value → List Value → sm_D → sm_M → Option (sm_S) := fun pc ls st D' M =>
  if pc = 58 then (match ls, st with
    | [.ref 24, .int bl1, gl2, .int bl3], [] => (sm_dq D' [d0, d1, d2, d3, d4] (jW_writeLambda_58 d0 d1 d2 d3 d4 bl1 bl3 M))
    | _, _ => none)
  else none
theorem ll123_0 (d0 d1 d2 d3 d4 : Nat) (hd4 : [d4] ∈ gC) {R : sm_S} : ∀ (pc : Nat) (ls st : List Value) (D' : sm_D) (M : sm_M) (v : sm_S), (lf123_0 d0 d1 d2 d3 d4) pc ls st D' M = some v → (fun v => v = R) v → sm_WJ smT smCl smSa shC f123 2 pc ls st D' M R := by
  intro pc ls st D' M v h hv
  unfold lf123_0 at h
  by_cases hp0 : pc = 58
  · subst hp0
    rw [if_pos (show (58 : Nat) = 58 from rfl)] at h
    split at h
    · skip
      replace h := sm_dq_inv h
      obtain ⟨he, h⟩ := h
      subst he
      have hv : v = R := hv
      subst hv
      exact w123_58 _ _ _ _ _ hd4 h
    · cases h
  · rw [if_neg hp0] at h
    cases h
set_option maxRecDepth 20000 in
set_option maxHeartbeats 4000000 in
theorem we123 (d0 d1 d2 d3 d4 : Nat) (hd4 : [d4] ∈ gC) {l1 l2 : Int32} {M : sm_M} {R : sm_S} (h : jW_writeLambda d0 d1 d2 d3 d4 l1 l2 M = some R) : sm_WJ smT smCl smSa shC f123 2 0 [.ref 24, .int l1, .int l2, .retAddr 0] [] [d0, d1, d2, d3, d4] M R := by
  rcases gC_inv hd4 with rfl | rfl
  · have e : jW_writeLambda d0 d1 d2 d3 40 l1 l2 M = (sm_run shC smSa cal123 c123 false (fun a D M => some (a, D, M)) (lf123_0 d0 d1 d2 d3 40) 68 (c123.drop 0) [.ref 24, .int l1, .int l2, .retAddr 0] [] [d0, d1, d2, d3, 40] M : Option (sm_S)) := rfl
    exact sm_blk (ρ := sm_S) (gd := (fun v => v = R)) (kx := 123) (i := 0) smVC rfl (by decide) ck123 (fun a D M v e1 e2 => by cases e1; exact e2.symm) (ll123_0 d0 d1 d2 d3 40 (by decide)) rfl (e.symm.trans h) rfl
  · have e : jW_writeLambda d0 d1 d2 d3 50 l1 l2 M = (sm_run shC smSa cal123 c123 false (fun a D M => some (a, D, M)) (lf123_0 d0 d1 d2 d3 50) 68 (c123.drop 0) [.ref 24, .int l1, .int l2, .retAddr 0] [] [d0, d1, d2, d3, 50] M : Option (sm_S)) := rfl
    exact sm_blk (ρ := sm_S) (gd := (fun v => v = R)) (kx := 123) (i := 0) smVC rfl (by decide) ck123 (fun a D M v e1 e2 => by cases e1; exact e2.symm) (ll123_0 d0 d1 d2 d3 50 (by decide)) rfl (e.symm.trans h) rfl
theorem m123 {d0 d1 d2 d3 d4 : Nat} (hd4 : [d4] ∈ gC) {l1 l2 : Int32} {M : sm_M} {R : sm_S} (h : jW_writeLambda d0 d1 d2 d3 d4 l1 l2 M = some R) : sm_MJ smT smCl smSa shC f123 2 [.ref 24, .int l1, .int l2] [d0, d1, d2, d3, d4] M R :=
  sm_met (by decide) (Nat.le_of_ble_eq_true rfl) (List.all_eq_true.mp rfl) (we123 d0 d1 d2 d3 d4 hd4 h)

-- jW_extend
noncomputable def cal126  : sm_Cal := fun x as D M =>
  if x = 159 then (match as with
    | [.ref 1, .int a1, .int a2, .int a3, .int a4] => (jT_find a1 a2 a3 a4 D M)
    | _ => none)
  else none
theorem ck126  : sm_CalOk smT smCl smP smSa shC 2 cal126 := by
  intro x g as D M R hx h
  unfold cal126 at h
  by_cases hx' : x = 159
  · subst hx'
    rw [if_pos (show (159 : Nat) = 159 from rfl)] at h
    cases (show smP[159]? = some f159 from rfl).symm.trans hx
    split at h
    · skip
      exact Or.inl ⟨1, by omega, m159   h⟩
    · cases h
  · rw [if_neg hx'] at h
    cases h
set_option maxRecDepth 20000 in
set_option maxHeartbeats 4000000 in
theorem w126_20 (d0 d1 d2 d3 d4 : Nat) (hd4 : [d4] ∈ gC) {l1 : Int32} {g0 g2 g3 : Value} {M : sm_M} {R : sm_S} (h : jW_extend_20 d0 d1 d2 d3 d4 l1 M = some R) : sm_WJ smT smCl smSa shC f126 2 20 [g0, .int l1, g2, g3] [] [d0, d1, d2, d3, d4] M R := by
  rcases gC_inv hd4 with rfl | rfl
  · have e : jW_extend_20 d0 d1 d2 d3 40 l1 M = (sm_run shC smSa cal126 c126 false (fun a D M => some (a, D, M)) sm_noleaf 53 (c126.drop 8) [g0, .int l1, g2, g3] [] [d0, d1, d2, d3, 40] M : Option (sm_S)) := rfl
    exact sm_blk (ρ := sm_S) (gd := (fun v => v = R)) (kx := 126) (i := 8) smVC rfl (by decide) ck126 (fun a D M v e1 e2 => by cases e1; exact e2.symm) (sm_noleaf_ok) rfl (e.symm.trans h) rfl
  · have e : jW_extend_20 d0 d1 d2 d3 50 l1 M = (sm_run shC smSa cal126 c126 false (fun a D M => some (a, D, M)) sm_noleaf 53 (c126.drop 8) [g0, .int l1, g2, g3] [] [d0, d1, d2, d3, 50] M : Option (sm_S)) := rfl
    exact sm_blk (ρ := sm_S) (gd := (fun v => v = R)) (kx := 126) (i := 8) smVC rfl (by decide) ck126 (fun a D M v e1 e2 => by cases e1; exact e2.symm) (sm_noleaf_ok) rfl (e.symm.trans h) rfl
noncomputable def lf126_0 (d0 d1 d2 d3 d4 : Nat) : Nat → List Value → List Value → sm_D → sm_M → Option (sm_S) := fun pc ls st D' M =>
  if pc = 20 then (match ls, st with
    | [gl0, .int bl1, gl2, gl3], [] => (sm_dq D' [d0, d1, d2, d3, d4] (jW_extend_20 d0 d1 d2 d3 d4 bl1 M))
    | _, _ => none)
  else none
theorem ll126_0 (d0 d1 d2 d3 d4 : Nat) (hd4 : [d4] ∈ gC) {R : sm_S} : ∀ (pc : Nat) (ls st : List Value) (D' : sm_D) (M : sm_M) (v : sm_S), (lf126_0 d0 d1 d2 d3 d4) pc ls st D' M = some v → (fun v => v = R) v → sm_WJ smT smCl smSa shC f126 2 pc ls st D' M R := by
  intro pc ls st D' M v h hv
  unfold lf126_0 at h
  by_cases hp0 : pc = 20
  · subst hp0
    rw [if_pos (show (20 : Nat) = 20 from rfl)] at h
    split at h
    · skip
      replace h := sm_dq_inv h
      obtain ⟨he, h⟩ := h
      subst he
      have hv : v = R := hv
      subst hv
      exact w126_20 _ _ _ _ _ hd4 h
    · cases h
  · rw [if_neg hp0] at h
    cases h
set_option maxRecDepth 20000 in
set_option maxHeartbeats 4000000 in
theorem we126 (d0 d1 d2 d3 d4 : Nat) (hd4 : [d4] ∈ gC) {l1 l2 l3 : Int32} {M : sm_M} {R : sm_S} (h : jW_extend d0 d1 d2 d3 d4 l1 l2 l3 M = some R) : sm_WJ smT smCl smSa shC f126 2 0 [.ref 24, .int l1, .int l2, .int l3] [] [d0, d1, d2, d3, d4] M R := by
  rcases gC_inv hd4 with rfl | rfl
  · have e : jW_extend d0 d1 d2 d3 40 l1 l2 l3 M = (sm_run shC smSa cal126 c126 false (fun a D M => some (a, D, M)) (lf126_0 d0 d1 d2 d3 40) 53 (c126.drop 0) [.ref 24, .int l1, .int l2, .int l3] [] [d0, d1, d2, d3, 40] M : Option (sm_S)) := rfl
    exact sm_blk (ρ := sm_S) (gd := (fun v => v = R)) (kx := 126) (i := 0) smVC rfl (by decide) ck126 (fun a D M v e1 e2 => by cases e1; exact e2.symm) (ll126_0 d0 d1 d2 d3 40 (by decide)) rfl (e.symm.trans h) rfl
  · have e : jW_extend d0 d1 d2 d3 50 l1 l2 l3 M = (sm_run shC smSa cal126 c126 false (fun a D M => some (a, D, M)) (lf126_0 d0 d1 d2 d3 50) 53 (c126.drop 0) [.ref 24, .int l1, .int l2, .int l3] [] [d0, d1, d2, d3, 50] M : Option (sm_S)) := rfl
    exact sm_blk (ρ := sm_S) (gd := (fun v => v = R)) (kx := 126) (i := 0) smVC rfl (by decide) ck126 (fun a D M v e1 e2 => by cases e1; exact e2.symm) (ll126_0 d0 d1 d2 d3 50 (by decide)) rfl (e.symm.trans h) rfl
theorem m126 {d0 d1 d2 d3 d4 : Nat} (hd4 : [d4] ∈ gC) {l1 l2 l3 : Int32} {M : sm_M} {R : sm_S} (h : jW_extend d0 d1 d2 d3 d4 l1 l2 l3 M = some R) : sm_MJ smT smCl smSa shC f126 2 [.ref 24, .int l1, .int l2, .int l3] [d0, d1, d2, d3, d4] M R :=
  sm_met (by decide) (Nat.le_of_ble_eq_true rfl) (List.all_eq_true.mp rfl) (we126 d0 d1 d2 d3 d4 hd4 h)

-- jW_writeCall
noncomputable def cal125 (rec : Nat → Nat → Nat → Nat → Nat → Int32 → Int32 → sm_M → Option sm_S) : sm_Cal := fun x as D M =>
  if x = 117 then (match as, D with
    | [.ref 24, .int a1, .int a2], [e0, e1, e2, e3, e4] => (sm_ga [e4] gC (rec e0 e1 e2 e3 e4 a1 a2 M))
    | _, _ => none)
  else if x = 154 then (match as with
    | [.ref 1, .int a1] => (jT_secondOf a1 D M)
    | _ => none)
  else if x = 113 then (match as with
    | [.ref q0, .int a1, .int a2, .int a3, .int a4] => (sm_ga [q0] gC (jC_put q0 a1 a2 a3 a4 D M))
    | _ => none)
  else if x = 126 then (match as, D with
    | [.ref 24, .int a1, .int a2, .int a3], [e0, e1, e2, e3, e4] => (sm_ga [e4] gC (jW_extend e0 e1 e2 e3 e4 a1 a2 a3 M))
    | _, _ => none)
  else if x = 108 then (match as with
    | [.ref q0] => (sm_ga [q0] gC (jC_reserve q0 D M))
    | _ => none)
  else if x = 159 then (match as with
    | [.ref 1, .int a1, .int a2, .int a3, .int a4] => (jT_find a1 a2 a3 a4 D M)
    | _ => none)
  else if x = 109 then (match as with
    | [.ref q0, .int a1, .int a2, .int a3, .int a4] => (sm_ga [q0] gC (jC_open q0 a1 a2 a3 a4 D M))
    | _ => none)
  else none
theorem ck125 (rec : Nat → Nat → Nat → Nat → Nat → Int32 → Int32 → sm_M → Option sm_S) (dr : Nat) (hrec : ∀ (d0 d1 d2 d3 d4 : Nat) (l1 l2 : Int32) (M : sm_M) (R : sm_S), [d4] ∈ gC → rec d0 d1 d2 d3 d4 l1 l2 M = some R → sm_MJ smT smCl smSa shC f117 dr [.ref 24, .int l1, .int l2] [d0, d1, d2, d3, d4] M R) : sm_CalOk smT smCl smP smSa shC (dr + 3) (cal125 rec) := by
  intro x g as D M R hx h
  unfold cal125 at h
  by_cases hx' : x = 117
  · subst hx'
    rw [if_pos (show (117 : Nat) = 117 from rfl)] at h
    cases (show smP[117]? = some f117 from rfl).symm.trans hx
    split at h
    · replace h := sm_ga_inv h
      obtain ⟨h1, h⟩ := h
      exact Or.inl ⟨dr, by omega, hrec _ _ _ _ _ _ _ _ _ h1 h⟩
    · cases h
  · rw [if_neg hx'] at h
    by_cases hx' : x = 154
    · subst hx'
      rw [if_pos (show (154 : Nat) = 154 from rfl)] at h
      cases (show smP[154]? = some f154 from rfl).symm.trans hx
      split at h
      · skip
        exact Or.inl ⟨1, by omega, m154   h⟩
      · cases h
    · rw [if_neg hx'] at h
      by_cases hx' : x = 113
      · subst hx'
        rw [if_pos (show (113 : Nat) = 113 from rfl)] at h
        cases (show smP[113]? = some f113 from rfl).symm.trans hx
        split at h
        · replace h := sm_ga_inv h
          obtain ⟨h1, h⟩ := h
          exact Or.inl ⟨1, by omega, m113  h1 h⟩
        · cases h
      · rw [if_neg hx'] at h
        by_cases hx' : x = 126
        · subst hx'
          rw [if_pos (show (126 : Nat) = 126 from rfl)] at h
          cases (show smP[126]? = some f126 from rfl).symm.trans hx
          split at h
          · replace h := sm_ga_inv h
            obtain ⟨h1, h⟩ := h
            exact Or.inl ⟨2, by omega, m126  h1 h⟩
          · cases h
        · rw [if_neg hx'] at h
          by_cases hx' : x = 108
          · subst hx'
            rw [if_pos (show (108 : Nat) = 108 from rfl)] at h
            cases (show smP[108]? = some f108 from rfl).symm.trans hx
            split at h
            · replace h := sm_ga_inv h
              obtain ⟨h1, h⟩ := h
              exact Or.inl ⟨0, by omega, m108  h1 h⟩
            · cases h
          · rw [if_neg hx'] at h
            by_cases hx' : x = 159
            · subst hx'
              rw [if_pos (show (159 : Nat) = 159 from rfl)] at h
              cases (show smP[159]? = some f159 from rfl).symm.trans hx
              split at h
              · skip
                exact Or.inl ⟨1, by omega, m159   h⟩
              · cases h
            · rw [if_neg hx'] at h
              by_cases hx' : x = 109
              · subst hx'
                rw [if_pos (show (109 : Nat) = 109 from rfl)] at h
                cases (show smP[109]? = some f109 from rfl).symm.trans hx
                split at h
                · replace h := sm_ga_inv h
                  obtain ⟨h1, h⟩ := h
                  exact Or.inl ⟨2, by omega, m109  h1 h⟩
                · cases h
              · rw [if_neg hx'] at h
                cases h
set_option maxRecDepth 20000 in
set_option maxHeartbeats 4000000 in
theorem we125 (rec : Nat → Nat → Nat → Nat → Nat → Int32 → Int32 → sm_M → Option sm_S) (dr : Nat) (hrec : ∀ (d0 d1 d2 d3 d4 : Nat) (l1 l2 : Int32) (M : sm_M) (R : sm_S), [d4] ∈ gC → rec d0 d1 d2 d3 d4 l1 l2 M = some R → sm_MJ smT smCl smSa shC f117 dr [.ref 24, .int l1, .int l2] [d0, d1, d2, d3, d4] M R) (d0 d1 d2 d3 d4 : Nat) (hd4 : [d4] ∈ gC) {l1 l2 : Int32} {M : sm_M} {R : sm_S} (h : jW_writeCall rec d0 d1 d2 d3 d4 l1 l2 M = some R) : sm_WJ smT smCl smSa shC f125 (dr + 3) 0 [.ref 24, .int l1, .int l2, .retAddr 0, .retAddr 0, .retAddr 0] [] [d0, d1, d2, d3, d4] M R := by
  rcases gC_inv hd4 with rfl | rfl
  · have e : jW_writeCall rec d0 d1 d2 d3 40 l1 l2 M = (sm_run shC smSa (cal125 rec) c125 false (fun a D M => some (a, D, M)) sm_noleaf 110 (c125.drop 0) [.ref 24, .int l1, .int l2, .retAddr 0, .retAddr 0, .retAddr 0] [] [d0, d1, d2, d3, 40] M : Option (sm_S)) := rfl
    exact sm_blk (ρ := sm_S) (gd := (fun v => v = R)) (kx := 125) (i := 0) smVC rfl (by decide) (ck125 rec dr hrec) (fun a D M v e1 e2 => by cases e1; exact e2.symm) (sm_noleaf_ok) rfl (e.symm.trans h) rfl
  · have e : jW_writeCall rec d0 d1 d2 d3 50 l1 l2 M = (sm_run shC smSa (cal125 rec) c125 false (fun a D M => some (a, D, M)) sm_noleaf 110 (c125.drop 0) [.ref 24, .int l1, .int l2, .retAddr 0, .retAddr 0, .retAddr 0] [] [d0, d1, d2, d3, 50] M : Option (sm_S)) := rfl
    exact sm_blk (ρ := sm_S) (gd := (fun v => v = R)) (kx := 125) (i := 0) smVC rfl (by decide) (ck125 rec dr hrec) (fun a D M v e1 e2 => by cases e1; exact e2.symm) (sm_noleaf_ok) rfl (e.symm.trans h) rfl
theorem m125 (rec : Nat → Nat → Nat → Nat → Nat → Int32 → Int32 → sm_M → Option sm_S) (dr : Nat) (hrec : ∀ (d0 d1 d2 d3 d4 : Nat) (l1 l2 : Int32) (M : sm_M) (R : sm_S), [d4] ∈ gC → rec d0 d1 d2 d3 d4 l1 l2 M = some R → sm_MJ smT smCl smSa shC f117 dr [.ref 24, .int l1, .int l2] [d0, d1, d2, d3, d4] M R) {d0 d1 d2 d3 d4 : Nat} (hd4 : [d4] ∈ gC) {l1 l2 : Int32} {M : sm_M} {R : sm_S} (h : jW_writeCall rec d0 d1 d2 d3 d4 l1 l2 M = some R) : sm_MJ smT smCl smSa shC f125 (dr + 3) [.ref 24, .int l1, .int l2] [d0, d1, d2, d3, d4] M R :=
  sm_met (by decide) (Nat.le_of_ble_eq_true rfl) (List.all_eq_true.mp rfl) (we125 rec dr hrec d0 d1 d2 d3 d4 hd4 h)

-- jW_writePart
noncomputable def cal121 (rec : Nat → Nat → Nat → Nat → Nat → Int32 → Int32 → sm_M → Option sm_S) : sm_Cal := fun x as D M =>
  if x = 117 then (match as, D with
    | [.ref 24, .int a1, .int a2], [e0, e1, e2, e3, e4] => (sm_ga [e4] gC (rec e0 e1 e2 e3 e4 a1 a2 M))
    | _, _ => none)
  else if x = 113 then (match as with
    | [.ref q0, .int a1, .int a2, .int a3, .int a4] => (sm_ga [q0] gC (jC_put q0 a1 a2 a3 a4 D M))
    | _ => none)
  else if x = 153 then (match as with
    | [.ref 1, .int a1] => (jT_firstOf a1 D M)
    | _ => none)
  else if x = 154 then (match as with
    | [.ref 1, .int a1] => (jT_secondOf a1 D M)
    | _ => none)
  else none
theorem ck121 (rec : Nat → Nat → Nat → Nat → Nat → Int32 → Int32 → sm_M → Option sm_S) (dr : Nat) (hrec : ∀ (d0 d1 d2 d3 d4 : Nat) (l1 l2 : Int32) (M : sm_M) (R : sm_S), [d4] ∈ gC → rec d0 d1 d2 d3 d4 l1 l2 M = some R → sm_MJ smT smCl smSa shC f117 dr [.ref 24, .int l1, .int l2] [d0, d1, d2, d3, d4] M R) : sm_CalOk smT smCl smP smSa shC (dr + 2) (cal121 rec) := by
  intro x g as D M R hx h
  unfold cal121 at h
  by_cases hx' : x = 117
  · subst hx'
    rw [if_pos (show (117 : Nat) = 117 from rfl)] at h
    cases (show smP[117]? = some f117 from rfl).symm.trans hx
    split at h
    · replace h := sm_ga_inv h
      obtain ⟨h1, h⟩ := h
      exact Or.inl ⟨dr, by omega, hrec _ _ _ _ _ _ _ _ _ h1 h⟩
    · cases h
  · rw [if_neg hx'] at h
    by_cases hx' : x = 113
    · subst hx'
      rw [if_pos (show (113 : Nat) = 113 from rfl)] at h
      cases (show smP[113]? = some f113 from rfl).symm.trans hx
      split at h
      · replace h := sm_ga_inv h
        obtain ⟨h1, h⟩ := h
        exact Or.inl ⟨1, by omega, m113  h1 h⟩
      · cases h
    · rw [if_neg hx'] at h
      by_cases hx' : x = 153
      · subst hx'
        rw [if_pos (show (153 : Nat) = 153 from rfl)] at h
        cases (show smP[153]? = some f153 from rfl).symm.trans hx
        split at h
        · skip
          exact Or.inl ⟨1, by omega, m153   h⟩
        · cases h
      · rw [if_neg hx'] at h
        by_cases hx' : x = 154
        · subst hx'
          rw [if_pos (show (154 : Nat) = 154 from rfl)] at h
          cases (show smP[154]? = some f154 from rfl).symm.trans hx
          split at h
          · skip
            exact Or.inl ⟨1, by omega, m154   h⟩
          · cases h
        · rw [if_neg hx'] at h
          cases h
set_option maxRecDepth 20000 in
set_option maxHeartbeats 4000000 in
theorem w121_52 (rec : Nat → Nat → Nat → Nat → Nat → Int32 → Int32 → sm_M → Option sm_S) (dr : Nat) (hrec : ∀ (d0 d1 d2 d3 d4 : Nat) (l1 l2 : Int32) (M : sm_M) (R : sm_S), [d4] ∈ gC → rec d0 d1 d2 d3 d4 l1 l2 M = some R → sm_MJ smT smCl smSa shC f117 dr [.ref 24, .int l1, .int l2] [d0, d1, d2, d3, d4] M R) (d0 d1 d2 d3 d4 : Nat) (hd4 : [d4] ∈ gC) {s0 : Int32} {g0 g1 g2 g3 g4 : Value} {M : sm_M} {R : sm_S} (h : jW_writePart_52 rec d0 d1 d2 d3 d4 s0 M = some R) : sm_WJ smT smCl smSa shC f121 (dr + 2) 52 [g0, g1, g2, g3, g4] [.int s0] [d0, d1, d2, d3, d4] M R := by
  rcases gC_inv hd4 with rfl | rfl
  · have e : jW_writePart_52 rec d0 d1 d2 d3 40 s0 M = (sm_run shC smSa (cal121 rec) c121 false (fun a D M => some (a, D, M)) sm_noleaf 33 (c121.drop 27) [g0, g1, g2, g3, g4] [.int s0] [d0, d1, d2, d3, 40] M : Option (sm_S)) := rfl
    exact sm_blk (ρ := sm_S) (gd := (fun v => v = R)) (kx := 121) (i := 27) smVC rfl (by decide) (ck121 rec dr hrec) (fun a D M v e1 e2 => by cases e1; exact e2.symm) (sm_noleaf_ok) rfl (e.symm.trans h) rfl
  · have e : jW_writePart_52 rec d0 d1 d2 d3 50 s0 M = (sm_run shC smSa (cal121 rec) c121 false (fun a D M => some (a, D, M)) sm_noleaf 33 (c121.drop 27) [g0, g1, g2, g3, g4] [.int s0] [d0, d1, d2, d3, 50] M : Option (sm_S)) := rfl
    exact sm_blk (ρ := sm_S) (gd := (fun v => v = R)) (kx := 121) (i := 27) smVC rfl (by decide) (ck121 rec dr hrec) (fun a D M v e1 e2 => by cases e1; exact e2.symm) (sm_noleaf_ok) rfl (e.symm.trans h) rfl
noncomputable def lf121_0 (rec : Nat → Nat → Nat → Nat → Nat → Int32 → Int32 → sm_M → Option sm_S) (d0 d1 d2 d3 d4 : Nat) : Nat → List Value → List Value → sm_D → sm_M → Option (sm_S) := fun pc ls st D' M =>
  if pc = 52 then (match ls, st with
    | [gl0, gl1, gl2, gl3, gl4], [.int bs0] => (sm_dq D' [d0, d1, d2, d3, d4] (jW_writePart_52 rec d0 d1 d2 d3 d4 bs0 M))
    | _, _ => none)
  else none
theorem ll121_0 (rec : Nat → Nat → Nat → Nat → Nat → Int32 → Int32 → sm_M → Option sm_S) (dr : Nat) (hrec : ∀ (d0 d1 d2 d3 d4 : Nat) (l1 l2 : Int32) (M : sm_M) (R : sm_S), [d4] ∈ gC → rec d0 d1 d2 d3 d4 l1 l2 M = some R → sm_MJ smT smCl smSa shC f117 dr [.ref 24, .int l1, .int l2] [d0, d1, d2, d3, d4] M R) (d0 d1 d2 d3 d4 : Nat) (hd4 : [d4] ∈ gC) {R : sm_S} : ∀ (pc : Nat) (ls st : List Value) (D' : sm_D) (M : sm_M) (v : sm_S), (lf121_0 rec d0 d1 d2 d3 d4) pc ls st D' M = some v → (fun v => v = R) v → sm_WJ smT smCl smSa shC f121 (dr + 2) pc ls st D' M R := by
  intro pc ls st D' M v h hv
  unfold lf121_0 at h
  by_cases hp0 : pc = 52
  · subst hp0
    rw [if_pos (show (52 : Nat) = 52 from rfl)] at h
    split at h
    · skip
      replace h := sm_dq_inv h
      obtain ⟨he, h⟩ := h
      subst he
      have hv : v = R := hv
      subst hv
      exact w121_52 rec dr hrec _ _ _ _ _ hd4 h
    · cases h
  · rw [if_neg hp0] at h
    cases h
set_option maxRecDepth 20000 in
set_option maxHeartbeats 4000000 in
theorem we121 (rec : Nat → Nat → Nat → Nat → Nat → Int32 → Int32 → sm_M → Option sm_S) (dr : Nat) (hrec : ∀ (d0 d1 d2 d3 d4 : Nat) (l1 l2 : Int32) (M : sm_M) (R : sm_S), [d4] ∈ gC → rec d0 d1 d2 d3 d4 l1 l2 M = some R → sm_MJ smT smCl smSa shC f117 dr [.ref 24, .int l1, .int l2] [d0, d1, d2, d3, d4] M R) (d0 d1 d2 d3 d4 : Nat) (hd4 : [d4] ∈ gC) {l1 l2 l3 : Int32} {M : sm_M} {R : sm_S} (h : jW_writePart rec d0 d1 d2 d3 d4 l1 l2 l3 M = some R) : sm_WJ smT smCl smSa shC f121 (dr + 2) 0 [.ref 24, .int l1, .int l2, .int l3, .retAddr 0] [] [d0, d1, d2, d3, d4] M R := by
  rcases gC_inv hd4 with rfl | rfl
  · have e : jW_writePart rec d0 d1 d2 d3 40 l1 l2 l3 M = (sm_run shC smSa (cal121 rec) c121 false (fun a D M => some (a, D, M)) (lf121_0 rec d0 d1 d2 d3 40) 33 (c121.drop 0) [.ref 24, .int l1, .int l2, .int l3, .retAddr 0] [] [d0, d1, d2, d3, 40] M : Option (sm_S)) := rfl
    exact sm_blk (ρ := sm_S) (gd := (fun v => v = R)) (kx := 121) (i := 0) smVC rfl (by decide) (ck121 rec dr hrec) (fun a D M v e1 e2 => by cases e1; exact e2.symm) (ll121_0 rec dr hrec d0 d1 d2 d3 40 (by decide)) rfl (e.symm.trans h) rfl
  · have e : jW_writePart rec d0 d1 d2 d3 50 l1 l2 l3 M = (sm_run shC smSa (cal121 rec) c121 false (fun a D M => some (a, D, M)) (lf121_0 rec d0 d1 d2 d3 50) 33 (c121.drop 0) [.ref 24, .int l1, .int l2, .int l3, .retAddr 0] [] [d0, d1, d2, d3, 50] M : Option (sm_S)) := rfl
    exact sm_blk (ρ := sm_S) (gd := (fun v => v = R)) (kx := 121) (i := 0) smVC rfl (by decide) (ck121 rec dr hrec) (fun a D M v e1 e2 => by cases e1; exact e2.symm) (ll121_0 rec dr hrec d0 d1 d2 d3 50 (by decide)) rfl (e.symm.trans h) rfl
theorem m121 (rec : Nat → Nat → Nat → Nat → Nat → Int32 → Int32 → sm_M → Option sm_S) (dr : Nat) (hrec : ∀ (d0 d1 d2 d3 d4 : Nat) (l1 l2 : Int32) (M : sm_M) (R : sm_S), [d4] ∈ gC → rec d0 d1 d2 d3 d4 l1 l2 M = some R → sm_MJ smT smCl smSa shC f117 dr [.ref 24, .int l1, .int l2] [d0, d1, d2, d3, d4] M R) {d0 d1 d2 d3 d4 : Nat} (hd4 : [d4] ∈ gC) {l1 l2 l3 : Int32} {M : sm_M} {R : sm_S} (h : jW_writePart rec d0 d1 d2 d3 d4 l1 l2 l3 M = some R) : sm_MJ smT smCl smSa shC f121 (dr + 2) [.ref 24, .int l1, .int l2, .int l3] [d0, d1, d2, d3, d4] M R :=
  sm_met (by decide) (Nat.le_of_ble_eq_true rfl) (List.all_eq_true.mp rfl) (we121 rec dr hrec d0 d1 d2 d3 d4 hd4 h)

-- jW_operationFor
set_option maxRecDepth 20000 in
set_option maxHeartbeats 4000000 in
theorem we120 {l0 : Int32} {D : sm_D} {M : sm_M} {R : sm_S} (h : jW_operationFor l0 D M = some R) : sm_WJ smT smCl smSa shC f120 0 0 [.int l0] [] D M R := by
  have e : jW_operationFor l0 D M = (sm_run shC smSa sm_nocal c120 false (fun a D M => some (a, D, M)) sm_noleaf 15 (c120.drop 0) [.int l0] [] D M : Option (sm_S)) := rfl
  exact sm_blk (ρ := sm_S) (gd := (fun v => v = R)) (kx := 120) (i := 0) smVC rfl (by decide) (sm_nocal_ok smT smCl smP smSa shC 0) (fun a D M v e1 e2 => by cases e1; exact e2.symm) (sm_noleaf_ok) rfl (e.symm.trans h) rfl
theorem m120 {l0 : Int32} {D : sm_D} {M : sm_M} {R : sm_S} (h : jW_operationFor l0 D M = some R) : sm_MJ smT smCl smSa shC f120 0 [.int l0] D M R :=
  sm_met (by decide) (Nat.le_of_ble_eq_true rfl) (List.all_eq_true.mp rfl) (we120  h)

-- jW_writeTwo
noncomputable def cal119 (rec : Nat → Nat → Nat → Nat → Nat → Int32 → Int32 → sm_M → Option sm_S) : sm_Cal := fun x as D M =>
  if x = 117 then (match as, D with
    | [.ref 24, .int a1, .int a2], [e0, e1, e2, e3, e4] => (sm_ga [e4] gC (rec e0 e1 e2 e3 e4 a1 a2 M))
    | _, _ => none)
  else if x = 113 then (match as with
    | [.ref q0, .int a1, .int a2, .int a3, .int a4] => (sm_ga [q0] gC (jC_put q0 a1 a2 a3 a4 D M))
    | _ => none)
  else if x = 126 then (match as, D with
    | [.ref 24, .int a1, .int a2, .int a3], [e0, e1, e2, e3, e4] => (sm_ga [e4] gC (jW_extend e0 e1 e2 e3 e4 a1 a2 a3 M))
    | _, _ => none)
  else if x = 120 then (match as with
    | [.int a0] => (jW_operationFor a0 D M)
    | _ => none)
  else if x = 159 then (match as with
    | [.ref 1, .int a1, .int a2, .int a3, .int a4] => (jT_find a1 a2 a3 a4 D M)
    | _ => none)
  else none
theorem ck119 (rec : Nat → Nat → Nat → Nat → Nat → Int32 → Int32 → sm_M → Option sm_S) (dr : Nat) (hrec : ∀ (d0 d1 d2 d3 d4 : Nat) (l1 l2 : Int32) (M : sm_M) (R : sm_S), [d4] ∈ gC → rec d0 d1 d2 d3 d4 l1 l2 M = some R → sm_MJ smT smCl smSa shC f117 dr [.ref 24, .int l1, .int l2] [d0, d1, d2, d3, d4] M R) : sm_CalOk smT smCl smP smSa shC (dr + 3) (cal119 rec) := by
  intro x g as D M R hx h
  unfold cal119 at h
  by_cases hx' : x = 117
  · subst hx'
    rw [if_pos (show (117 : Nat) = 117 from rfl)] at h
    cases (show smP[117]? = some f117 from rfl).symm.trans hx
    split at h
    · replace h := sm_ga_inv h
      obtain ⟨h1, h⟩ := h
      exact Or.inl ⟨dr, by omega, hrec _ _ _ _ _ _ _ _ _ h1 h⟩
    · cases h
  · rw [if_neg hx'] at h
    by_cases hx' : x = 113
    · subst hx'
      rw [if_pos (show (113 : Nat) = 113 from rfl)] at h
      cases (show smP[113]? = some f113 from rfl).symm.trans hx
      split at h
      · replace h := sm_ga_inv h
        obtain ⟨h1, h⟩ := h
        exact Or.inl ⟨1, by omega, m113  h1 h⟩
      · cases h
    · rw [if_neg hx'] at h
      by_cases hx' : x = 126
      · subst hx'
        rw [if_pos (show (126 : Nat) = 126 from rfl)] at h
        cases (show smP[126]? = some f126 from rfl).symm.trans hx
        split at h
        · replace h := sm_ga_inv h
          obtain ⟨h1, h⟩ := h
          exact Or.inl ⟨2, by omega, m126  h1 h⟩
        · cases h
      · rw [if_neg hx'] at h
        by_cases hx' : x = 120
        · subst hx'
          rw [if_pos (show (120 : Nat) = 120 from rfl)] at h
          cases (show smP[120]? = some f120 from rfl).symm.trans hx
          split at h
          · skip
            exact Or.inl ⟨0, by omega, m120   h⟩
          · cases h
        · rw [if_neg hx'] at h
          by_cases hx' : x = 159
          · subst hx'
            rw [if_pos (show (159 : Nat) = 159 from rfl)] at h
            cases (show smP[159]? = some f159 from rfl).symm.trans hx
            split at h
            · skip
              exact Or.inl ⟨1, by omega, m159   h⟩
            · cases h
          · rw [if_neg hx'] at h
            cases h
set_option maxRecDepth 20000 in
set_option maxHeartbeats 4000000 in
theorem w119_134 (rec : Nat → Nat → Nat → Nat → Nat → Int32 → Int32 → sm_M → Option sm_S) (dr : Nat) (hrec : ∀ (d0 d1 d2 d3 d4 : Nat) (l1 l2 : Int32) (M : sm_M) (R : sm_S), [d4] ∈ gC → rec d0 d1 d2 d3 d4 l1 l2 M = some R → sm_MJ smT smCl smSa shC f117 dr [.ref 24, .int l1, .int l2] [d0, d1, d2, d3, d4] M R) (d0 d1 d2 d3 d4 : Nat) (hd4 : [d4] ∈ gC) {s0 : Int32} {g0 g1 g2 g3 g4 g5 : Value} {M : sm_M} {R : sm_S} (h : jW_writeTwo_134 rec d0 d1 d2 d3 d4 s0 M = some R) : sm_WJ smT smCl smSa shC f119 (dr + 3) 134 [g0, g1, g2, g3, g4, g5] [.int s0] [d0, d1, d2, d3, d4] M R := by
  rcases gC_inv hd4 with rfl | rfl
  · have e : jW_writeTwo_134 rec d0 d1 d2 d3 40 s0 M = (sm_run shC smSa (cal119 rec) c119 false (fun a D M => some (a, D, M)) sm_noleaf 83 (c119.drop 77) [g0, g1, g2, g3, g4, g5] [.int s0] [d0, d1, d2, d3, 40] M : Option (sm_S)) := rfl
    exact sm_blk (ρ := sm_S) (gd := (fun v => v = R)) (kx := 119) (i := 77) smVC rfl (by decide) (ck119 rec dr hrec) (fun a D M v e1 e2 => by cases e1; exact e2.symm) (sm_noleaf_ok) rfl (e.symm.trans h) rfl
  · have e : jW_writeTwo_134 rec d0 d1 d2 d3 50 s0 M = (sm_run shC smSa (cal119 rec) c119 false (fun a D M => some (a, D, M)) sm_noleaf 83 (c119.drop 77) [g0, g1, g2, g3, g4, g5] [.int s0] [d0, d1, d2, d3, 50] M : Option (sm_S)) := rfl
    exact sm_blk (ρ := sm_S) (gd := (fun v => v = R)) (kx := 119) (i := 77) smVC rfl (by decide) (ck119 rec dr hrec) (fun a D M v e1 e2 => by cases e1; exact e2.symm) (sm_noleaf_ok) rfl (e.symm.trans h) rfl
noncomputable def lf119_111 (rec : Nat → Nat → Nat → Nat → Nat → Int32 → Int32 → sm_M → Option sm_S) (d0 d1 d2 d3 d4 : Nat) : Nat → List Value → List Value → sm_D → sm_M → Option (sm_S) := fun pc ls st D' M =>
  if pc = 134 then (match ls, st with
    | [gl0, gl1, gl2, gl3, gl4, gl5], [.int bs0] => (sm_dq D' [d0, d1, d2, d3, d4] (jW_writeTwo_134 rec d0 d1 d2 d3 d4 bs0 M))
    | _, _ => none)
  else none
theorem ll119_111 (rec : Nat → Nat → Nat → Nat → Nat → Int32 → Int32 → sm_M → Option sm_S) (dr : Nat) (hrec : ∀ (d0 d1 d2 d3 d4 : Nat) (l1 l2 : Int32) (M : sm_M) (R : sm_S), [d4] ∈ gC → rec d0 d1 d2 d3 d4 l1 l2 M = some R → sm_MJ smT smCl smSa shC f117 dr [.ref 24, .int l1, .int l2] [d0, d1, d2, d3, d4] M R) (d0 d1 d2 d3 d4 : Nat) (hd4 : [d4] ∈ gC) {R : sm_S} : ∀ (pc : Nat) (ls st : List Value) (D' : sm_D) (M : sm_M) (v : sm_S), (lf119_111 rec d0 d1 d2 d3 d4) pc ls st D' M = some v → (fun v => v = R) v → sm_WJ smT smCl smSa shC f119 (dr + 3) pc ls st D' M R := by
  intro pc ls st D' M v h hv
  unfold lf119_111 at h
  by_cases hp0 : pc = 134
  · subst hp0
    rw [if_pos (show (134 : Nat) = 134 from rfl)] at h
    split at h
    · skip
      replace h := sm_dq_inv h
      obtain ⟨he, h⟩ := h
      subst he
      have hv : v = R := hv
      subst hv
      exact w119_134 rec dr hrec _ _ _ _ _ hd4 h
    · cases h
  · rw [if_neg hp0] at h
    cases h
set_option maxRecDepth 20000 in
set_option maxHeartbeats 4000000 in
theorem w119_111 (rec : Nat → Nat → Nat → Nat → Nat → Int32 → Int32 → sm_M → Option sm_S) (dr : Nat) (hrec : ∀ (d0 d1 d2 d3 d4 : Nat) (l1 l2 : Int32) (M : sm_M) (R : sm_S), [d4] ∈ gC → rec d0 d1 d2 d3 d4 l1 l2 M = some R → sm_MJ smT smCl smSa shC f117 dr [.ref 24, .int l1, .int l2] [d0, d1, d2, d3, d4] M R) (d0 d1 d2 d3 d4 : Nat) (hd4 : [d4] ∈ gC) {l3 l4 s0 : Int32} {g1 g2 g5 : Value} {M : sm_M} {R : sm_S} (h : jW_writeTwo_111 rec d0 d1 d2 d3 d4 l3 l4 s0 M = some R) : sm_WJ smT smCl smSa shC f119 (dr + 3) 111 [.ref 24, g1, g2, .int l3, .int l4, g5] [.int s0] [d0, d1, d2, d3, d4] M R := by
  rcases gC_inv hd4 with rfl | rfl
  · have e : jW_writeTwo_111 rec d0 d1 d2 d3 40 l3 l4 s0 M = (sm_run shC smSa (cal119 rec) c119 false (fun a D M => some (a, D, M)) (lf119_111 rec d0 d1 d2 d3 40) 83 (c119.drop 65) [.ref 24, g1, g2, .int l3, .int l4, g5] [.int s0] [d0, d1, d2, d3, 40] M : Option (sm_S)) := rfl
    exact sm_blk (ρ := sm_S) (gd := (fun v => v = R)) (kx := 119) (i := 65) smVC rfl (by decide) (ck119 rec dr hrec) (fun a D M v e1 e2 => by cases e1; exact e2.symm) (ll119_111 rec dr hrec d0 d1 d2 d3 40 (by decide)) rfl (e.symm.trans h) rfl
  · have e : jW_writeTwo_111 rec d0 d1 d2 d3 50 l3 l4 s0 M = (sm_run shC smSa (cal119 rec) c119 false (fun a D M => some (a, D, M)) (lf119_111 rec d0 d1 d2 d3 50) 83 (c119.drop 65) [.ref 24, g1, g2, .int l3, .int l4, g5] [.int s0] [d0, d1, d2, d3, 50] M : Option (sm_S)) := rfl
    exact sm_blk (ρ := sm_S) (gd := (fun v => v = R)) (kx := 119) (i := 65) smVC rfl (by decide) (ck119 rec dr hrec) (fun a D M v e1 e2 => by cases e1; exact e2.symm) (ll119_111 rec dr hrec d0 d1 d2 d3 50 (by decide)) rfl (e.symm.trans h) rfl
noncomputable def lf119_0 (rec : Nat → Nat → Nat → Nat → Nat → Int32 → Int32 → sm_M → Option sm_S) (d0 d1 d2 d3 d4 : Nat) : Nat → List Value → List Value → sm_D → sm_M → Option (sm_S) := fun pc ls st D' M =>
  if pc = 111 then (match ls, st with
    | [.ref 24, gl1, gl2, .int bl3, .int bl4, gl5], [.int bs0] => (sm_dq D' [d0, d1, d2, d3, d4] (jW_writeTwo_111 rec d0 d1 d2 d3 d4 bl3 bl4 bs0 M))
    | _, _ => none)
  else none
theorem ll119_0 (rec : Nat → Nat → Nat → Nat → Nat → Int32 → Int32 → sm_M → Option sm_S) (dr : Nat) (hrec : ∀ (d0 d1 d2 d3 d4 : Nat) (l1 l2 : Int32) (M : sm_M) (R : sm_S), [d4] ∈ gC → rec d0 d1 d2 d3 d4 l1 l2 M = some R → sm_MJ smT smCl smSa shC f117 dr [.ref 24, .int l1, .int l2] [d0, d1, d2, d3, d4] M R) (d0 d1 d2 d3 d4 : Nat) (hd4 : [d4] ∈ gC) {R : sm_S} : ∀ (pc : Nat) (ls st : List Value) (D' : sm_D) (M : sm_M) (v : sm_S), (lf119_0 rec d0 d1 d2 d3 d4) pc ls st D' M = some v → (fun v => v = R) v → sm_WJ smT smCl smSa shC f119 (dr + 3) pc ls st D' M R := by
  intro pc ls st D' M v h hv
  unfold lf119_0 at h
  by_cases hp0 : pc = 111
  · subst hp0
    rw [if_pos (show (111 : Nat) = 111 from rfl)] at h
    split at h
    · skip
      replace h := sm_dq_inv h
      obtain ⟨he, h⟩ := h
      subst he
      have hv : v = R := hv
      subst hv
      exact w119_111 rec dr hrec _ _ _ _ _ hd4 h
    · cases h
  · rw [if_neg hp0] at h
    cases h
set_option maxRecDepth 20000 in
set_option maxHeartbeats 4000000 in
theorem we119 (rec : Nat → Nat → Nat → Nat → Nat → Int32 → Int32 → sm_M → Option sm_S) (dr : Nat) (hrec : ∀ (d0 d1 d2 d3 d4 : Nat) (l1 l2 : Int32) (M : sm_M) (R : sm_S), [d4] ∈ gC → rec d0 d1 d2 d3 d4 l1 l2 M = some R → sm_MJ smT smCl smSa shC f117 dr [.ref 24, .int l1, .int l2] [d0, d1, d2, d3, d4] M R) (d0 d1 d2 d3 d4 : Nat) (hd4 : [d4] ∈ gC) {l1 l2 : Int32} {M : sm_M} {R : sm_S} (h : jW_writeTwo rec d0 d1 d2 d3 d4 l1 l2 M = some R) : sm_WJ smT smCl smSa shC f119 (dr + 3) 0 [.ref 24, .int l1, .int l2, .retAddr 0, .retAddr 0, .retAddr 0] [] [d0, d1, d2, d3, d4] M R := by
  rcases gC_inv hd4 with rfl | rfl
  · have e : jW_writeTwo rec d0 d1 d2 d3 40 l1 l2 M = (sm_run shC smSa (cal119 rec) c119 false (fun a D M => some (a, D, M)) (lf119_0 rec d0 d1 d2 d3 40) 83 (c119.drop 0) [.ref 24, .int l1, .int l2, .retAddr 0, .retAddr 0, .retAddr 0] [] [d0, d1, d2, d3, 40] M : Option (sm_S)) := rfl
    exact sm_blk (ρ := sm_S) (gd := (fun v => v = R)) (kx := 119) (i := 0) smVC rfl (by decide) (ck119 rec dr hrec) (fun a D M v e1 e2 => by cases e1; exact e2.symm) (ll119_0 rec dr hrec d0 d1 d2 d3 40 (by decide)) rfl (e.symm.trans h) rfl
  · have e : jW_writeTwo rec d0 d1 d2 d3 50 l1 l2 M = (sm_run shC smSa (cal119 rec) c119 false (fun a D M => some (a, D, M)) (lf119_0 rec d0 d1 d2 d3 50) 83 (c119.drop 0) [.ref 24, .int l1, .int l2, .retAddr 0, .retAddr 0, .retAddr 0] [] [d0, d1, d2, d3, 50] M : Option (sm_S)) := rfl
    exact sm_blk (ρ := sm_S) (gd := (fun v => v = R)) (kx := 119) (i := 0) smVC rfl (by decide) (ck119 rec dr hrec) (fun a D M v e1 e2 => by cases e1; exact e2.symm) (ll119_0 rec dr hrec d0 d1 d2 d3 50 (by decide)) rfl (e.symm.trans h) rfl
theorem m119 (rec : Nat → Nat → Nat → Nat → Nat → Int32 → Int32 → sm_M → Option sm_S) (dr : Nat) (hrec : ∀ (d0 d1 d2 d3 d4 : Nat) (l1 l2 : Int32) (M : sm_M) (R : sm_S), [d4] ∈ gC → rec d0 d1 d2 d3 d4 l1 l2 M = some R → sm_MJ smT smCl smSa shC f117 dr [.ref 24, .int l1, .int l2] [d0, d1, d2, d3, d4] M R) {d0 d1 d2 d3 d4 : Nat} (hd4 : [d4] ∈ gC) {l1 l2 : Int32} {M : sm_M} {R : sm_S} (h : jW_writeTwo rec d0 d1 d2 d3 d4 l1 l2 M = some R) : sm_MJ smT smCl smSa shC f119 (dr + 3) [.ref 24, .int l1, .int l2] [d0, d1, d2, d3, d4] M R :=
  sm_met (by decide) (Nat.le_of_ble_eq_true rfl) (List.all_eq_true.mp rfl) (we119 rec dr hrec d0 d1 d2 d3 d4 hd4 h)

-- jW_write
noncomputable def cal117 (rec : Nat → Nat → Nat → Nat → Nat → Int32 → Int32 → sm_M → Option sm_S) : sm_Cal := fun x as D M =>
  if x = 113 then (match as with
    | [.ref q0, .int a1, .int a2, .int a3, .int a4] => (sm_ga [q0] gC (jC_put q0 a1 a2 a3 a4 D M))
    | _ => none)
  else if x = 118 then (match as, D with
    | [.ref 24, .int a1, .int a2], [e0, e1, e2, e3, e4] => (sm_ga [e4] gC (jW_writeVariable e0 e1 e2 e3 e4 a1 a2 M))
    | _, _ => none)
  else if x = 122 then (match as, D with
    | [.ref 24, .int a1, .int a2], [e0, e1, e2, e3, e4] => (sm_ga [e4] gC (jW_writeChoice rec e0 e1 e2 e3 e4 a1 a2 M))
    | _, _ => none)
  else if x = 123 then (match as, D with
    | [.ref 24, .int a1, .int a2], [e0, e1, e2, e3, e4] => (sm_ga [e4] gC (jW_writeLambda e0 e1 e2 e3 e4 a1 a2 M))
    | _, _ => none)
  else if x = 125 then (match as, D with
    | [.ref 24, .int a1, .int a2], [e0, e1, e2, e3, e4] => (sm_ga [e4] gC (jW_writeCall rec e0 e1 e2 e3 e4 a1 a2 M))
    | _, _ => none)
  else if x = 121 then (match as, D with
    | [.ref 24, .int a1, .int a2, .int a3], [e0, e1, e2, e3, e4] => (sm_ga [e4] gC (jW_writePart rec e0 e1 e2 e3 e4 a1 a2 a3 M))
    | _, _ => none)
  else if x = 119 then (match as, D with
    | [.ref 24, .int a1, .int a2], [e0, e1, e2, e3, e4] => (sm_ga [e4] gC (jW_writeTwo rec e0 e1 e2 e3 e4 a1 a2 M))
    | _, _ => none)
  else none
theorem ck117 (rec : Nat → Nat → Nat → Nat → Nat → Int32 → Int32 → sm_M → Option sm_S) (dr : Nat) (hrec : ∀ (d0 d1 d2 d3 d4 : Nat) (l1 l2 : Int32) (M : sm_M) (R : sm_S), [d4] ∈ gC → rec d0 d1 d2 d3 d4 l1 l2 M = some R → sm_MJ smT smCl smSa shC f117 dr [.ref 24, .int l1, .int l2] [d0, d1, d2, d3, d4] M R) : sm_CalOk smT smCl smP smSa shC (dr + 4) (cal117 rec) := by
  intro x g as D M R hx h
  unfold cal117 at h
  by_cases hx' : x = 113
  · subst hx'
    rw [if_pos (show (113 : Nat) = 113 from rfl)] at h
    cases (show smP[113]? = some f113 from rfl).symm.trans hx
    split at h
    · replace h := sm_ga_inv h
      obtain ⟨h1, h⟩ := h
      exact Or.inl ⟨1, by omega, m113  h1 h⟩
    · cases h
  · rw [if_neg hx'] at h
    by_cases hx' : x = 118
    · subst hx'
      rw [if_pos (show (118 : Nat) = 118 from rfl)] at h
      cases (show smP[118]? = some f118 from rfl).symm.trans hx
      split at h
      · replace h := sm_ga_inv h
        obtain ⟨h1, h⟩ := h
        exact Or.inl ⟨2, by omega, m118  h1 h⟩
      · cases h
    · rw [if_neg hx'] at h
      by_cases hx' : x = 122
      · subst hx'
        rw [if_pos (show (122 : Nat) = 122 from rfl)] at h
        cases (show smP[122]? = some f122 from rfl).symm.trans hx
        split at h
        · replace h := sm_ga_inv h
          obtain ⟨h1, h⟩ := h
          exact Or.inl ⟨dr + 3, by omega, m122 rec dr hrec h1 h⟩
        · cases h
      · rw [if_neg hx'] at h
        by_cases hx' : x = 123
        · subst hx'
          rw [if_pos (show (123 : Nat) = 123 from rfl)] at h
          cases (show smP[123]? = some f123 from rfl).symm.trans hx
          split at h
          · replace h := sm_ga_inv h
            obtain ⟨h1, h⟩ := h
            exact Or.inl ⟨2, by omega, m123  h1 h⟩
          · cases h
        · rw [if_neg hx'] at h
          by_cases hx' : x = 125
          · subst hx'
            rw [if_pos (show (125 : Nat) = 125 from rfl)] at h
            cases (show smP[125]? = some f125 from rfl).symm.trans hx
            split at h
            · replace h := sm_ga_inv h
              obtain ⟨h1, h⟩ := h
              exact Or.inl ⟨dr + 3, by omega, m125 rec dr hrec h1 h⟩
            · cases h
          · rw [if_neg hx'] at h
            by_cases hx' : x = 121
            · subst hx'
              rw [if_pos (show (121 : Nat) = 121 from rfl)] at h
              cases (show smP[121]? = some f121 from rfl).symm.trans hx
              split at h
              · replace h := sm_ga_inv h
                obtain ⟨h1, h⟩ := h
                exact Or.inl ⟨dr + 2, by omega, m121 rec dr hrec h1 h⟩
              · cases h
            · rw [if_neg hx'] at h
              by_cases hx' : x = 119
              · subst hx'
                rw [if_pos (show (119 : Nat) = 119 from rfl)] at h
                cases (show smP[119]? = some f119 from rfl).symm.trans hx
                split at h
                · replace h := sm_ga_inv h
                  obtain ⟨h1, h⟩ := h
                  exact Or.inl ⟨dr + 3, by omega, m119 rec dr hrec h1 h⟩
                · cases h
              · rw [if_neg hx'] at h
                cases h
set_option maxRecDepth 20000 in
set_option maxHeartbeats 4000000 in
theorem w117_153 (rec : Nat → Nat → Nat → Nat → Nat → Int32 → Int32 → sm_M → Option sm_S) (dr : Nat) (hrec : ∀ (d0 d1 d2 d3 d4 : Nat) (l1 l2 : Int32) (M : sm_M) (R : sm_S), [d4] ∈ gC → rec d0 d1 d2 d3 d4 l1 l2 M = some R → sm_MJ smT smCl smSa shC f117 dr [.ref 24, .int l1, .int l2] [d0, d1, d2, d3, d4] M R) (d0 d1 d2 d3 d4 : Nat) (hd4 : [d4] ∈ gC) {l1 l2 : Int32} {M : sm_M} {R : sm_S} (h : jW_write_153 rec d0 d1 d2 d3 d4 l1 l2 M = some R) : sm_WJ smT smCl smSa shC f117 (dr + 4) 153 [.ref 24, .int l1, .int l2] [] [d0, d1, d2, d3, d4] M R := by
  rcases gC_inv hd4 with rfl | rfl
  · have e : jW_write_153 rec d0 d1 d2 d3 40 l1 l2 M = (sm_run shC smSa (cal117 rec) c117 false (fun a D M => some (a, D, M)) sm_noleaf 71 (c117.drop 61) [.ref 24, .int l1, .int l2] [] [d0, d1, d2, d3, 40] M : Option (sm_S)) := rfl
    exact sm_blk (ρ := sm_S) (gd := (fun v => v = R)) (kx := 117) (i := 61) smVC rfl (by decide) (ck117 rec dr hrec) (fun a D M v e1 e2 => by cases e1; exact e2.symm) (sm_noleaf_ok) rfl (e.symm.trans h) rfl
  · have e : jW_write_153 rec d0 d1 d2 d3 50 l1 l2 M = (sm_run shC smSa (cal117 rec) c117 false (fun a D M => some (a, D, M)) sm_noleaf 71 (c117.drop 61) [.ref 24, .int l1, .int l2] [] [d0, d1, d2, d3, 50] M : Option (sm_S)) := rfl
    exact sm_blk (ρ := sm_S) (gd := (fun v => v = R)) (kx := 117) (i := 61) smVC rfl (by decide) (ck117 rec dr hrec) (fun a D M v e1 e2 => by cases e1; exact e2.symm) (sm_noleaf_ok) rfl (e.symm.trans h) rfl
noncomputable def lf117_0 (rec : Nat → Nat → Nat → Nat → Nat → Int32 → Int32 → sm_M → Option sm_S) (d0 d1 d2 d3 d4 : Nat) : Nat → List Value → List Value → sm_D → sm_M → Option (sm_S) := fun pc ls st D' M =>
  if pc = 153 then (match ls, st with
    | [.ref 24, .int bl1, .int bl2], [] => (sm_dq D' [d0, d1, d2, d3, d4] (jW_write_153 rec d0 d1 d2 d3 d4 bl1 bl2 M))
    | _, _ => none)
  else none
theorem ll117_0 (rec : Nat → Nat → Nat → Nat → Nat → Int32 → Int32 → sm_M → Option sm_S) (dr : Nat) (hrec : ∀ (d0 d1 d2 d3 d4 : Nat) (l1 l2 : Int32) (M : sm_M) (R : sm_S), [d4] ∈ gC → rec d0 d1 d2 d3 d4 l1 l2 M = some R → sm_MJ smT smCl smSa shC f117 dr [.ref 24, .int l1, .int l2] [d0, d1, d2, d3, d4] M R) (d0 d1 d2 d3 d4 : Nat) (hd4 : [d4] ∈ gC) {R : sm_S} : ∀ (pc : Nat) (ls st : List Value) (D' : sm_D) (M : sm_M) (v : sm_S), (lf117_0 rec d0 d1 d2 d3 d4) pc ls st D' M = some v → (fun v => v = R) v → sm_WJ smT smCl smSa shC f117 (dr + 4) pc ls st D' M R := by
  intro pc ls st D' M v h hv
  unfold lf117_0 at h
  by_cases hp0 : pc = 153
  · subst hp0
    rw [if_pos (show (153 : Nat) = 153 from rfl)] at h
    split at h
    · skip
      replace h := sm_dq_inv h
      obtain ⟨he, h⟩ := h
      subst he
      have hv : v = R := hv
      subst hv
      exact w117_153 rec dr hrec _ _ _ _ _ hd4 h
    · cases h
  · rw [if_neg hp0] at h
    cases h
set_option maxRecDepth 20000 in
set_option maxHeartbeats 4000000 in
theorem we117 (rec : Nat → Nat → Nat → Nat → Nat → Int32 → Int32 → sm_M → Option sm_S) (dr : Nat) (hrec : ∀ (d0 d1 d2 d3 d4 : Nat) (l1 l2 : Int32) (M : sm_M) (R : sm_S), [d4] ∈ gC → rec d0 d1 d2 d3 d4 l1 l2 M = some R → sm_MJ smT smCl smSa shC f117 dr [.ref 24, .int l1, .int l2] [d0, d1, d2, d3, d4] M R) (d0 d1 d2 d3 d4 : Nat) (hd4 : [d4] ∈ gC) {l1 l2 : Int32} {M : sm_M} {R : sm_S} (h : jW_write0 rec d0 d1 d2 d3 d4 l1 l2 M = some R) : sm_WJ smT smCl smSa shC f117 (dr + 4) 0 [.ref 24, .int l1, .int l2] [] [d0, d1, d2, d3, d4] M R := by
  rcases gC_inv hd4 with rfl | rfl
  · have e : jW_write0 rec d0 d1 d2 d3 40 l1 l2 M = (sm_run shC smSa (cal117 rec) c117 false (fun a D M => some (a, D, M)) (lf117_0 rec d0 d1 d2 d3 40) 71 (c117.drop 0) [.ref 24, .int l1, .int l2] [] [d0, d1, d2, d3, 40] M : Option (sm_S)) := rfl
    exact sm_blk (ρ := sm_S) (gd := (fun v => v = R)) (kx := 117) (i := 0) smVC rfl (by decide) (ck117 rec dr hrec) (fun a D M v e1 e2 => by cases e1; exact e2.symm) (ll117_0 rec dr hrec d0 d1 d2 d3 40 (by decide)) rfl (e.symm.trans h) rfl
  · have e : jW_write0 rec d0 d1 d2 d3 50 l1 l2 M = (sm_run shC smSa (cal117 rec) c117 false (fun a D M => some (a, D, M)) (lf117_0 rec d0 d1 d2 d3 50) 71 (c117.drop 0) [.ref 24, .int l1, .int l2] [] [d0, d1, d2, d3, 50] M : Option (sm_S)) := rfl
    exact sm_blk (ρ := sm_S) (gd := (fun v => v = R)) (kx := 117) (i := 0) smVC rfl (by decide) (ck117 rec dr hrec) (fun a D M v e1 e2 => by cases e1; exact e2.symm) (ll117_0 rec dr hrec d0 d1 d2 d3 50 (by decide)) rfl (e.symm.trans h) rfl
theorem mh117 (rec : Nat → Nat → Nat → Nat → Nat → Int32 → Int32 → sm_M → Option sm_S) (dr : Nat) (hrec : ∀ (d0 d1 d2 d3 d4 : Nat) (l1 l2 : Int32) (M : sm_M) (R : sm_S), [d4] ∈ gC → rec d0 d1 d2 d3 d4 l1 l2 M = some R → sm_MJ smT smCl smSa shC f117 dr [.ref 24, .int l1, .int l2] [d0, d1, d2, d3, d4] M R) {d0 d1 d2 d3 d4 : Nat} (hd4 : [d4] ∈ gC) {l1 l2 : Int32} {M : sm_M} {R : sm_S} (h : jW_write0 rec d0 d1 d2 d3 d4 l1 l2 M = some R) : sm_MJ smT smCl smSa shC f117 (dr + 4) [.ref 24, .int l1, .int l2] [d0, d1, d2, d3, d4] M R :=
  sm_met (by decide) (Nat.le_of_ble_eq_true rfl) (List.all_eq_true.mp rfl) (we117 rec dr hrec d0 d1 d2 d3 d4 hd4 h)
theorem m117 (n : Nat) {d0 d1 d2 d3 d4 : Nat} (hd4 : [d4] ∈ gC) {l1 l2 : Int32} {M : sm_M} {R : sm_S} (h : jW_write n d0 d1 d2 d3 d4 l1 l2 M = some R) : sm_MJ smT smCl smSa shC f117 (n * 4) [.ref 24, .int l1, .int l2] [d0, d1, d2, d3, d4] M R := by
  induction n generalizing d0 d1 d2 d3 d4 l1 l2 M R with
  | zero => cases h
  | succ n ih =>
    rw [Nat.succ_mul]
    exact mh117 (jW_write n) (n * 4) (fun d0 d1 d2 d3 d4 l1 l2 M R hd h => ih hd h) hd4 h

-- jW_writeBody
noncomputable def cal124  : sm_Cal := fun x as D M =>
  if x = 153 then (match as with
    | [.ref 1, .int a1] => (jT_firstOf a1 D M)
    | _ => none)
  else if x = 154 then (match as with
    | [.ref 1, .int a1] => (jT_secondOf a1 D M)
    | _ => none)
  else if x = 159 then (match as with
    | [.ref 1, .int a1, .int a2, .int a3, .int a4] => (jT_find a1 a2 a3 a4 D M)
    | _ => none)
  else if x = 109 then (match as with
    | [.ref q0, .int a1, .int a2, .int a3, .int a4] => (sm_ga [q0] gC (jC_open q0 a1 a2 a3 a4 D M))
    | _ => none)
  else if x = 113 then (match as with
    | [.ref q0, .int a1, .int a2, .int a3, .int a4] => (sm_ga [q0] gC (jC_put q0 a1 a2 a3 a4 D M))
    | _ => none)
  else if x = 126 then (match as, D with
    | [.ref 24, .int a1, .int a2, .int a3], [e0, e1, e2, e3, e4] => (sm_ga [e4] gC (jW_extend e0 e1 e2 e3 e4 a1 a2 a3 M))
    | _, _ => none)
  else if x = 117 then (match as, D with
    | [.ref 24, .int a1, .int a2], [e0, e1, e2, e3, e4] => (sm_ga [e4] gC (jW_write 8 e0 e1 e2 e3 e4 a1 a2 M))
    | _, _ => none)
  else none
theorem ck124  : sm_CalOk smT smCl smP smSa shC 33 cal124 := by
  intro x g as D M R hx h
  unfold cal124 at h
  by_cases hx' : x = 153
  · subst hx'
    rw [if_pos (show (153 : Nat) = 153 from rfl)] at h
    cases (show smP[153]? = some f153 from rfl).symm.trans hx
    split at h
    · skip
      exact Or.inl ⟨1, by omega, m153   h⟩
    · cases h
  · rw [if_neg hx'] at h
    by_cases hx' : x = 154
    · subst hx'
      rw [if_pos (show (154 : Nat) = 154 from rfl)] at h
      cases (show smP[154]? = some f154 from rfl).symm.trans hx
      split at h
      · skip
        exact Or.inl ⟨1, by omega, m154   h⟩
      · cases h
    · rw [if_neg hx'] at h
      by_cases hx' : x = 159
      · subst hx'
        rw [if_pos (show (159 : Nat) = 159 from rfl)] at h
        cases (show smP[159]? = some f159 from rfl).symm.trans hx
        split at h
        · skip
          exact Or.inl ⟨1, by omega, m159   h⟩
        · cases h
      · rw [if_neg hx'] at h
        by_cases hx' : x = 109
        · subst hx'
          rw [if_pos (show (109 : Nat) = 109 from rfl)] at h
          cases (show smP[109]? = some f109 from rfl).symm.trans hx
          split at h
          · replace h := sm_ga_inv h
            obtain ⟨h1, h⟩ := h
            exact Or.inl ⟨2, by omega, m109  h1 h⟩
          · cases h
        · rw [if_neg hx'] at h
          by_cases hx' : x = 113
          · subst hx'
            rw [if_pos (show (113 : Nat) = 113 from rfl)] at h
            cases (show smP[113]? = some f113 from rfl).symm.trans hx
            split at h
            · replace h := sm_ga_inv h
              obtain ⟨h1, h⟩ := h
              exact Or.inl ⟨1, by omega, m113  h1 h⟩
            · cases h
          · rw [if_neg hx'] at h
            by_cases hx' : x = 126
            · subst hx'
              rw [if_pos (show (126 : Nat) = 126 from rfl)] at h
              cases (show smP[126]? = some f126 from rfl).symm.trans hx
              split at h
              · replace h := sm_ga_inv h
                obtain ⟨h1, h⟩ := h
                exact Or.inl ⟨2, by omega, m126  h1 h⟩
              · cases h
            · rw [if_neg hx'] at h
              by_cases hx' : x = 117
              · subst hx'
                rw [if_pos (show (117 : Nat) = 117 from rfl)] at h
                cases (show smP[117]? = some f117 from rfl).symm.trans hx
                split at h
                · replace h := sm_ga_inv h
                  obtain ⟨h1, h⟩ := h
                  exact Or.inl ⟨8 * 4, by omega, m117 8 h1 h⟩
                · cases h
              · rw [if_neg hx'] at h
                cases h
set_option maxRecDepth 20000 in
set_option maxHeartbeats 4000000 in
theorem we124 (d0 d1 d2 d3 d4 : Nat) (hd4 : [d4] ∈ gC) {l1 l2 l3 : Int32} {M : sm_M} {R : sm_S} (h : jW_writeBody d0 d1 d2 d3 d4 l1 l2 l3 M = some R) : sm_WJ smT smCl smSa shC f124 33 0 [.ref 24, .int l1, .int l2, .int l3, .retAddr 0, .retAddr 0, .retAddr 0, .retAddr 0, .retAddr 0] [] [d0, d1, d2, d3, d4] M R := by
  rcases gC_inv hd4 with rfl | rfl
  · have e : jW_writeBody d0 d1 d2 d3 40 l1 l2 l3 M = (sm_run shC smSa cal124 c124 false (fun a D M => some (a, D, M)) sm_noleaf 133 (c124.drop 0) [.ref 24, .int l1, .int l2, .int l3, .retAddr 0, .retAddr 0, .retAddr 0, .retAddr 0, .retAddr 0] [] [d0, d1, d2, d3, 40] M : Option (sm_S)) := rfl
    exact sm_blk (ρ := sm_S) (gd := (fun v => v = R)) (kx := 124) (i := 0) smVC rfl (by decide) ck124 (fun a D M v e1 e2 => by cases e1; exact e2.symm) (sm_noleaf_ok) rfl (e.symm.trans h) rfl
  · have e : jW_writeBody d0 d1 d2 d3 50 l1 l2 l3 M = (sm_run shC smSa cal124 c124 false (fun a D M => some (a, D, M)) sm_noleaf 133 (c124.drop 0) [.ref 24, .int l1, .int l2, .int l3, .retAddr 0, .retAddr 0, .retAddr 0, .retAddr 0, .retAddr 0] [] [d0, d1, d2, d3, 50] M : Option (sm_S)) := rfl
    exact sm_blk (ρ := sm_S) (gd := (fun v => v = R)) (kx := 124) (i := 0) smVC rfl (by decide) ck124 (fun a D M v e1 e2 => by cases e1; exact e2.symm) (sm_noleaf_ok) rfl (e.symm.trans h) rfl
theorem m124 {d0 d1 d2 d3 d4 : Nat} (hd4 : [d4] ∈ gC) {l1 l2 l3 : Int32} {M : sm_M} {R : sm_S} (h : jW_writeBody d0 d1 d2 d3 d4 l1 l2 l3 M = some R) : sm_MJ smT smCl smSa shC f124 33 [.ref 24, .int l1, .int l2, .int l3] [d0, d1, d2, d3, d4] M R :=
  sm_met (by decide) (Nat.le_of_ble_eq_true rfl) (List.all_eq_true.mp rfl) (we124 d0 d1 d2 d3 d4 hd4 h)

