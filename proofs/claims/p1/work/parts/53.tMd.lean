-- jR_isRight
noncomputable def cal73  : sm_Cal := fun x as D M =>
  if x = 18 then (match as with
    | [.ref 1, .int a1, .int a2, .int a3, .int a4] => (jR_find a1 a2 a3 a4 D M)
    | _ => none)
  else if x = 71 then (match as with
    | [.ref 1, .int a1, .int a2] => (jR_wraps a1 a2 D M)
    | _ => none)
  else if x = 72 then (match as with
    | [.ref 1, .int a1] => (jR_opens a1 D M)
    | _ => none)
  else if x = 70 then (match as with
    | [.ref 1, .int a1] => (jR_hasBlock a1 D M)
    | _ => none)
  else if x = 69 then (match as with
    | [.ref 1, .int a1, .int a2, .int a3] => (jR_has a1 a2 a3 D M)
    | _ => none)
  else none
theorem ck73  : sm_CalOk smT smCl smP smSa shM 3 cal73 := by
  intro x g as D M R hx h
  unfold cal73 at h
  by_cases hx' : x = 18
  · subst hx'
    rw [if_pos (show (18 : Nat) = 18 from rfl)] at h
    cases (show smP[18]? = some f18 from rfl).symm.trans hx
    split at h
    · skip
      exact Or.inl ⟨1, by omega, m18   h⟩
    · cases h
  · rw [if_neg hx'] at h
    by_cases hx' : x = 71
    · subst hx'
      rw [if_pos (show (71 : Nat) = 71 from rfl)] at h
      cases (show smP[71]? = some f71 from rfl).symm.trans hx
      split at h
      · skip
        exact Or.inl ⟨2, by omega, m71   h⟩
      · cases h
    · rw [if_neg hx'] at h
      by_cases hx' : x = 72
      · subst hx'
        rw [if_pos (show (72 : Nat) = 72 from rfl)] at h
        cases (show smP[72]? = some f72 from rfl).symm.trans hx
        split at h
        · skip
          exact Or.inl ⟨2, by omega, m72   h⟩
        · cases h
      · rw [if_neg hx'] at h
        by_cases hx' : x = 70
        · subst hx'
          rw [if_pos (show (70 : Nat) = 70 from rfl)] at h
          cases (show smP[70]? = some f70 from rfl).symm.trans hx
          split at h
          · skip
            exact Or.inl ⟨1, by omega, m70   h⟩
          · cases h
        · rw [if_neg hx'] at h
          by_cases hx' : x = 69
          · subst hx'
            rw [if_pos (show (69 : Nat) = 69 from rfl)] at h
            cases (show smP[69]? = some f69 from rfl).symm.trans hx
            split at h
            · skip
              exact Or.inl ⟨0, by omega, m69   h⟩
            · cases h
          · rw [if_neg hx'] at h
            cases h
set_option maxRecDepth 20000 in
set_option maxHeartbeats 4000000 in
theorem w73_120 {g0 g1 g2 g3 g4 : Value} {D : sm_D} {M : sm_M} {R : sm_S} (h : jR_isRight_120 D M = some R) : sm_WJ smT smCl smSa shM f73 3 120 [g0, g1, g2, g3, g4] [] D M R := by
  have e : jR_isRight_120 D M = (sm_run shM smSa cal73 c73 true (fun a D M => some (a, D, M)) sm_noleaf 246 (c73.drop 37) [g0, g1, g2, g3, g4] [] D M : Option (sm_S)) := rfl
  exact sm_blk (ρ := sm_S) (gd := (fun v => v = R)) (kx := 73) (i := 37) smVM rfl (by decide) ck73 (fun a D M v e1 e2 => by cases e1; exact e2.symm) (sm_noleaf_ok) rfl (e.symm.trans h) rfl
noncomputable def lf73_101 (D : sm_D) : Nat → List Value → List Value → sm_D → sm_M → Option (sm_S) := fun pc ls st D' M =>
  if pc = 120 then (match ls, st with
    | [gl0, gl1, gl2, gl3, gl4], [] => (jR_isRight_120 D' M)
    | _, _ => none)
  else none
theorem ll73_101 (D : sm_D) {R : sm_S} : ∀ (pc : Nat) (ls st : List Value) (D' : sm_D) (M : sm_M) (v : sm_S), (lf73_101 D) pc ls st D' M = some v → (fun v => v = R) v → sm_WJ smT smCl smSa shM f73 3 pc ls st D' M R := by
  intro pc ls st D' M v h hv
  unfold lf73_101 at h
  by_cases hp0 : pc = 120
  · subst hp0
    rw [if_pos (show (120 : Nat) = 120 from rfl)] at h
    split at h
    · skip
      have hv : v = R := hv
      subst hv
      exact w73_120  h
    · cases h
  · rw [if_neg hp0] at h
    cases h
set_option maxRecDepth 20000 in
set_option maxHeartbeats 4000000 in
theorem w73_101 {l2 l3 l4 : Int32} {g1 : Value} {D : sm_D} {M : sm_M} {R : sm_S} (h : jR_isRight_101 l2 l3 l4 D M = some R) : sm_WJ smT smCl smSa shM f73 3 101 [.ref 1, g1, .int l2, .int l3, .int l4] [] D M R := by
  have e : jR_isRight_101 l2 l3 l4 D M = (sm_run shM smSa cal73 c73 true (fun a D M => some (a, D, M)) (lf73_101 D) 246 (c73.drop 27) [.ref 1, g1, .int l2, .int l3, .int l4] [] D M : Option (sm_S)) := rfl
  exact sm_blk (ρ := sm_S) (gd := (fun v => v = R)) (kx := 73) (i := 27) smVM rfl (by decide) ck73 (fun a D M v e1 e2 => by cases e1; exact e2.symm) (ll73_101 D) rfl (e.symm.trans h) rfl
set_option maxRecDepth 20000 in
set_option maxHeartbeats 4000000 in
theorem w73_150 {g0 g1 g2 g3 g4 : Value} {D : sm_D} {M : sm_M} {R : sm_S} (h : jR_isRight_150 D M = some R) : sm_WJ smT smCl smSa shM f73 3 150 [g0, g1, g2, g3, g4] [] D M R := by
  have e : jR_isRight_150 D M = (sm_run shM smSa cal73 c73 true (fun a D M => some (a, D, M)) sm_noleaf 246 (c73.drop 56) [g0, g1, g2, g3, g4] [] D M : Option (sm_S)) := rfl
  exact sm_blk (ρ := sm_S) (gd := (fun v => v = R)) (kx := 73) (i := 56) smVM rfl (by decide) ck73 (fun a D M v e1 e2 => by cases e1; exact e2.symm) (sm_noleaf_ok) rfl (e.symm.trans h) rfl
set_option maxRecDepth 20000 in
set_option maxHeartbeats 4000000 in
theorem w73_203 {g0 g1 g2 g3 g4 : Value} {D : sm_D} {M : sm_M} {R : sm_S} (h : jR_isRight_203 D M = some R) : sm_WJ smT smCl smSa shM f73 3 203 [g0, g1, g2, g3, g4] [] D M R := by
  have e : jR_isRight_203 D M = (sm_run shM smSa cal73 c73 true (fun a D M => some (a, D, M)) sm_noleaf 246 (c73.drop 90) [g0, g1, g2, g3, g4] [] D M : Option (sm_S)) := rfl
  exact sm_blk (ρ := sm_S) (gd := (fun v => v = R)) (kx := 73) (i := 90) smVM rfl (by decide) ck73 (fun a D M v e1 e2 => by cases e1; exact e2.symm) (sm_noleaf_ok) rfl (e.symm.trans h) rfl
set_option maxRecDepth 20000 in
set_option maxHeartbeats 4000000 in
theorem w73_240 {s1 s2 : Int32} {g0 g1 g2 g3 g4 : Value} {D : sm_D} {M : sm_M} {R : sm_S} (h : jR_isRight_240 s1 s2 D M = some R) : sm_WJ smT smCl smSa shM f73 3 240 [g0, g1, g2, g3, g4] [.int s2, .int s1, .ref 53] D M R := by
  have e : jR_isRight_240 s1 s2 D M = (sm_run shM smSa cal73 c73 true (fun a D M => some (a, D, M)) sm_noleaf 246 (c73.drop 112) [g0, g1, g2, g3, g4] [.int s2, .int s1, .ref 53] D M : Option (sm_S)) := rfl
  exact sm_blk (ρ := sm_S) (gd := (fun v => v = R)) (kx := 73) (i := 112) smVM rfl (by decide) ck73 (fun a D M v e1 e2 => by cases e1; exact e2.symm) (sm_noleaf_ok) rfl (e.symm.trans h) rfl
set_option maxRecDepth 20000 in
set_option maxHeartbeats 4000000 in
theorem w73_355 {s0 : Int32} {g0 g1 g2 g3 g4 : Value} {D : sm_D} {M : sm_M} {R : sm_S} (h : jR_isRight_355 s0 D M = some R) : sm_WJ smT smCl smSa shM f73 3 355 [g0, g1, g2, g3, g4] [.int s0] D M R := by
  have e : jR_isRight_355 s0 D M = (sm_run shM smSa cal73 c73 true (fun a D M => some (a, D, M)) sm_noleaf 246 (c73.drop 189) [g0, g1, g2, g3, g4] [.int s0] D M : Option (sm_S)) := rfl
  exact sm_blk (ρ := sm_S) (gd := (fun v => v = R)) (kx := 73) (i := 189) smVM rfl (by decide) ck73 (fun a D M v e1 e2 => by cases e1; exact e2.symm) (sm_noleaf_ok) rfl (e.symm.trans h) rfl
noncomputable def lf73_354 (D : sm_D) : Nat → List Value → List Value → sm_D → sm_M → Option (sm_S) := fun pc ls st D' M =>
  if pc = 355 then (match ls, st with
    | [gl0, gl1, gl2, gl3, gl4], [.int bs0] => (jR_isRight_355 bs0 D' M)
    | _, _ => none)
  else none
theorem ll73_354 (D : sm_D) {R : sm_S} : ∀ (pc : Nat) (ls st : List Value) (D' : sm_D) (M : sm_M) (v : sm_S), (lf73_354 D) pc ls st D' M = some v → (fun v => v = R) v → sm_WJ smT smCl smSa shM f73 3 pc ls st D' M R := by
  intro pc ls st D' M v h hv
  unfold lf73_354 at h
  by_cases hp0 : pc = 355
  · subst hp0
    rw [if_pos (show (355 : Nat) = 355 from rfl)] at h
    split at h
    · skip
      have hv : v = R := hv
      subst hv
      exact w73_355  h
    · cases h
  · rw [if_neg hp0] at h
    cases h
set_option maxRecDepth 20000 in
set_option maxHeartbeats 4000000 in
theorem w73_354 {g0 g1 g2 g3 g4 : Value} {D : sm_D} {M : sm_M} {R : sm_S} (h : jR_isRight_354 D M = some R) : sm_WJ smT smCl smSa shM f73 3 354 [g0, g1, g2, g3, g4] [] D M R := by
  have e : jR_isRight_354 D M = (sm_run shM smSa cal73 c73 true (fun a D M => some (a, D, M)) (lf73_354 D) 246 (c73.drop 188) [g0, g1, g2, g3, g4] [] D M : Option (sm_S)) := rfl
  exact sm_blk (ρ := sm_S) (gd := (fun v => v = R)) (kx := 73) (i := 188) smVM rfl (by decide) ck73 (fun a D M v e1 e2 => by cases e1; exact e2.symm) (ll73_354 D) rfl (e.symm.trans h) rfl
set_option maxRecDepth 20000 in
set_option maxHeartbeats 4000000 in
theorem w73_425 {s0 : Int32} {g0 g1 g2 g3 g4 : Value} {D : sm_D} {M : sm_M} {R : sm_S} (h : jR_isRight_425 s0 D M = some R) : sm_WJ smT smCl smSa shM f73 3 425 [g0, g1, g2, g3, g4] [.int s0] D M R := by
  have e : jR_isRight_425 s0 D M = (sm_run shM smSa cal73 c73 true (fun a D M => some (a, D, M)) sm_noleaf 246 (c73.drop 231) [g0, g1, g2, g3, g4] [.int s0] D M : Option (sm_S)) := rfl
  exact sm_blk (ρ := sm_S) (gd := (fun v => v = R)) (kx := 73) (i := 231) smVM rfl (by decide) ck73 (fun a D M v e1 e2 => by cases e1; exact e2.symm) (sm_noleaf_ok) rfl (e.symm.trans h) rfl
noncomputable def lf73_424 (D : sm_D) : Nat → List Value → List Value → sm_D → sm_M → Option (sm_S) := fun pc ls st D' M =>
  if pc = 425 then (match ls, st with
    | [gl0, gl1, gl2, gl3, gl4], [.int bs0] => (jR_isRight_425 bs0 D' M)
    | _, _ => none)
  else none
theorem ll73_424 (D : sm_D) {R : sm_S} : ∀ (pc : Nat) (ls st : List Value) (D' : sm_D) (M : sm_M) (v : sm_S), (lf73_424 D) pc ls st D' M = some v → (fun v => v = R) v → sm_WJ smT smCl smSa shM f73 3 pc ls st D' M R := by
  intro pc ls st D' M v h hv
  unfold lf73_424 at h
  by_cases hp0 : pc = 425
  · subst hp0
    rw [if_pos (show (425 : Nat) = 425 from rfl)] at h
    split at h
    · skip
      have hv : v = R := hv
      subst hv
      exact w73_425  h
    · cases h
  · rw [if_neg hp0] at h
    cases h
set_option maxRecDepth 20000 in
set_option maxHeartbeats 4000000 in
theorem w73_424 {g0 g1 g2 g3 g4 : Value} {D : sm_D} {M : sm_M} {R : sm_S} (h : jR_isRight_424 D M = some R) : sm_WJ smT smCl smSa shM f73 3 424 [g0, g1, g2, g3, g4] [] D M R := by
  have e : jR_isRight_424 D M = (sm_run shM smSa cal73 c73 true (fun a D M => some (a, D, M)) (lf73_424 D) 246 (c73.drop 230) [g0, g1, g2, g3, g4] [] D M : Option (sm_S)) := rfl
  exact sm_blk (ρ := sm_S) (gd := (fun v => v = R)) (kx := 73) (i := 230) smVM rfl (by decide) ck73 (fun a D M v e1 e2 => by cases e1; exact e2.symm) (ll73_424 D) rfl (e.symm.trans h) rfl
set_option maxRecDepth 20000 in
set_option maxHeartbeats 4000000 in
theorem w73_440 {s0 : Int32} {g0 g1 g2 g3 g4 : Value} {D : sm_D} {M : sm_M} {R : sm_S} (h : jR_isRight_440 s0 D M = some R) : sm_WJ smT smCl smSa shM f73 3 440 [g0, g1, g2, g3, g4] [.int s0] D M R := by
  have e : jR_isRight_440 s0 D M = (sm_run shM smSa cal73 c73 true (fun a D M => some (a, D, M)) sm_noleaf 246 (c73.drop 240) [g0, g1, g2, g3, g4] [.int s0] D M : Option (sm_S)) := rfl
  exact sm_blk (ρ := sm_S) (gd := (fun v => v = R)) (kx := 73) (i := 240) smVM rfl (by decide) ck73 (fun a D M v e1 e2 => by cases e1; exact e2.symm) (sm_noleaf_ok) rfl (e.symm.trans h) rfl
noncomputable def lf73_0 (D : sm_D) : Nat → List Value → List Value → sm_D → sm_M → Option (sm_S) := fun pc ls st D' M =>
  if pc = 101 then (match ls, st with
    | [.ref 1, gl1, .int bl2, .int bl3, .int bl4], [] => (jR_isRight_101 bl2 bl3 bl4 D' M)
    | _, _ => none)
  else if pc = 150 then (match ls, st with
    | [gl0, gl1, gl2, gl3, gl4], [] => (jR_isRight_150 D' M)
    | _, _ => none)
  else if pc = 203 then (match ls, st with
    | [gl0, gl1, gl2, gl3, gl4], [] => (jR_isRight_203 D' M)
    | _, _ => none)
  else if pc = 240 then (match ls, st with
    | [gl0, gl1, gl2, gl3, gl4], [.int bs2, .int bs1, .ref 53] => (jR_isRight_240 bs1 bs2 D' M)
    | _, _ => none)
  else if pc = 354 then (match ls, st with
    | [gl0, gl1, gl2, gl3, gl4], [] => (jR_isRight_354 D' M)
    | _, _ => none)
  else if pc = 355 then (match ls, st with
    | [gl0, gl1, gl2, gl3, gl4], [.int bs0] => (jR_isRight_355 bs0 D' M)
    | _, _ => none)
  else if pc = 424 then (match ls, st with
    | [gl0, gl1, gl2, gl3, gl4], [] => (jR_isRight_424 D' M)
    | _, _ => none)
  else if pc = 425 then (match ls, st with
    | [gl0, gl1, gl2, gl3, gl4], [.int bs0] => (jR_isRight_425 bs0 D' M)
    | _, _ => none)
  else if pc = 440 then (match ls, st with
    | [gl0, gl1, gl2, gl3, gl4], [.int bs0] => (jR_isRight_440 bs0 D' M)
    | _, _ => none)
  else none
theorem ll73_0 (D : sm_D) {R : sm_S} : ∀ (pc : Nat) (ls st : List Value) (D' : sm_D) (M : sm_M) (v : sm_S), (lf73_0 D) pc ls st D' M = some v → (fun v => v = R) v → sm_WJ smT smCl smSa shM f73 3 pc ls st D' M R := by
  intro pc ls st D' M v h hv
  unfold lf73_0 at h
  by_cases hp0 : pc = 101
  · subst hp0
    rw [if_pos (show (101 : Nat) = 101 from rfl)] at h
    split at h
    · skip
      have hv : v = R := hv
      subst hv
      exact w73_101  h
    · cases h
  · rw [if_neg hp0] at h
    by_cases hp0 : pc = 150
    · subst hp0
      rw [if_pos (show (150 : Nat) = 150 from rfl)] at h
      split at h
      · skip
        have hv : v = R := hv
        subst hv
        exact w73_150  h
      · cases h
    · rw [if_neg hp0] at h
      by_cases hp0 : pc = 203
      · subst hp0
        rw [if_pos (show (203 : Nat) = 203 from rfl)] at h
        split at h
        · skip
          have hv : v = R := hv
          subst hv
          exact w73_203  h
        · cases h
      · rw [if_neg hp0] at h
        by_cases hp0 : pc = 240
        · subst hp0
          rw [if_pos (show (240 : Nat) = 240 from rfl)] at h
          split at h
          · skip
            have hv : v = R := hv
            subst hv
            exact w73_240  h
          · cases h
        · rw [if_neg hp0] at h
          by_cases hp0 : pc = 354
          · subst hp0
            rw [if_pos (show (354 : Nat) = 354 from rfl)] at h
            split at h
            · skip
              have hv : v = R := hv
              subst hv
              exact w73_354  h
            · cases h
          · rw [if_neg hp0] at h
            by_cases hp0 : pc = 355
            · subst hp0
              rw [if_pos (show (355 : Nat) = 355 from rfl)] at h
              split at h
              · skip
                have hv : v = R := hv
                subst hv
                exact w73_355  h
              · cases h
            · rw [if_neg hp0] at h
              by_cases hp0 : pc = 424
              · subst hp0
                rw [if_pos (show (424 : Nat) = 424 from rfl)] at h
                split at h
                · skip
                  have hv : v = R := hv
                  subst hv
                  exact w73_424  h
                · cases h
              · rw [if_neg hp0] at h
                by_cases hp0 : pc = 425
                · subst hp0
                  rw [if_pos (show (425 : Nat) = 425 from rfl)] at h
                  split at h
                  · skip
                    have hv : v = R := hv
                    subst hv
                    exact w73_425  h
                  · cases h
                · rw [if_neg hp0] at h
                  by_cases hp0 : pc = 440
                  · subst hp0
                    rw [if_pos (show (440 : Nat) = 440 from rfl)] at h
                    split at h
                    · skip
                      have hv : v = R := hv
                      subst hv
                      exact w73_440  h
                    · cases h
                  · rw [if_neg hp0] at h
                    cases h
set_option maxRecDepth 20000 in
set_option maxHeartbeats 4000000 in
theorem we73 {l1 : Int32} {D : sm_D} {M : sm_M} {R : sm_S} (h : jR_isRight l1 D M = some R) : sm_WJ smT smCl smSa shM f73 3 0 [.ref 1, .int l1, .retAddr 0, .retAddr 0, .retAddr 0] [] D M R := by
  have e : jR_isRight l1 D M = (sm_run shM smSa cal73 c73 true (fun a D M => some (a, D, M)) (lf73_0 D) 246 (c73.drop 0) [.ref 1, .int l1, .retAddr 0, .retAddr 0, .retAddr 0] [] D M : Option (sm_S)) := rfl
  exact sm_blk (ρ := sm_S) (gd := (fun v => v = R)) (kx := 73) (i := 0) smVM rfl (by decide) ck73 (fun a D M v e1 e2 => by cases e1; exact e2.symm) (ll73_0 D) rfl (e.symm.trans h) rfl
theorem m73 {l1 : Int32} {D : sm_D} {M : sm_M} {R : sm_S} (h : jR_isRight l1 D M = some R) : sm_MJ smT smCl smSa shM f73 3 [.ref 1, .int l1] D M R :=
  sm_met (by decide) (Nat.le_of_ble_eq_true rfl) (List.all_eq_true.mp rfl) (we73  h)

-- jR_isEnd
set_option maxRecDepth 20000 in
set_option maxHeartbeats 4000000 in
theorem w74_23 {s0 : Int32} {g0 : Value} {D : sm_D} {M : sm_M} {R : sm_S} (h : jR_isEnd_23 s0 D M = some R) : sm_WJ smT smCl smSa shM f74 0 23 [g0] [.int s0] D M R := by
  have e : jR_isEnd_23 s0 D M = (sm_run shM smSa sm_nocal c74 true (fun a D M => some (a, D, M)) sm_noleaf 18 (c74.drop 12) [g0] [.int s0] D M : Option (sm_S)) := rfl
  exact sm_blk (ρ := sm_S) (gd := (fun v => v = R)) (kx := 74) (i := 12) smVM rfl (by decide) (sm_nocal_ok smT smCl smP smSa shM 0) (fun a D M v e1 e2 => by cases e1; exact e2.symm) (sm_noleaf_ok) rfl (e.symm.trans h) rfl
noncomputable def lf74_18 (D : sm_D) : Nat → List Value → List Value → sm_D → sm_M → Option (sm_S) := fun pc ls st D' M =>
  if pc = 23 then (match ls, st with
    | [gl0], [.int bs0] => (jR_isEnd_23 bs0 D' M)
    | _, _ => none)
  else none
theorem ll74_18 (D : sm_D) {R : sm_S} : ∀ (pc : Nat) (ls st : List Value) (D' : sm_D) (M : sm_M) (v : sm_S), (lf74_18 D) pc ls st D' M = some v → (fun v => v = R) v → sm_WJ smT smCl smSa shM f74 0 pc ls st D' M R := by
  intro pc ls st D' M v h hv
  unfold lf74_18 at h
  by_cases hp0 : pc = 23
  · subst hp0
    rw [if_pos (show (23 : Nat) = 23 from rfl)] at h
    split at h
    · skip
      have hv : v = R := hv
      subst hv
      exact w74_23  h
    · cases h
  · rw [if_neg hp0] at h
    cases h
set_option maxRecDepth 20000 in
set_option maxHeartbeats 4000000 in
theorem w74_18 {g0 : Value} {D : sm_D} {M : sm_M} {R : sm_S} (h : jR_isEnd_18 D M = some R) : sm_WJ smT smCl smSa shM f74 0 18 [g0] [] D M R := by
  have e : jR_isEnd_18 D M = (sm_run shM smSa sm_nocal c74 true (fun a D M => some (a, D, M)) (lf74_18 D) 18 (c74.drop 9) [g0] [] D M : Option (sm_S)) := rfl
  exact sm_blk (ρ := sm_S) (gd := (fun v => v = R)) (kx := 74) (i := 9) smVM rfl (by decide) (sm_nocal_ok smT smCl smP smSa shM 0) (fun a D M v e1 e2 => by cases e1; exact e2.symm) (ll74_18 D) rfl (e.symm.trans h) rfl
noncomputable def lf74_0 (D : sm_D) : Nat → List Value → List Value → sm_D → sm_M → Option (sm_S) := fun pc ls st D' M =>
  if pc = 18 then (match ls, st with
    | [gl0], [] => (jR_isEnd_18 D' M)
    | _, _ => none)
  else if pc = 23 then (match ls, st with
    | [gl0], [.int bs0] => (jR_isEnd_23 bs0 D' M)
    | _, _ => none)
  else none
theorem ll74_0 (D : sm_D) {R : sm_S} : ∀ (pc : Nat) (ls st : List Value) (D' : sm_D) (M : sm_M) (v : sm_S), (lf74_0 D) pc ls st D' M = some v → (fun v => v = R) v → sm_WJ smT smCl smSa shM f74 0 pc ls st D' M R := by
  intro pc ls st D' M v h hv
  unfold lf74_0 at h
  by_cases hp0 : pc = 18
  · subst hp0
    rw [if_pos (show (18 : Nat) = 18 from rfl)] at h
    split at h
    · skip
      have hv : v = R := hv
      subst hv
      exact w74_18  h
    · cases h
  · rw [if_neg hp0] at h
    by_cases hp0 : pc = 23
    · subst hp0
      rw [if_pos (show (23 : Nat) = 23 from rfl)] at h
      split at h
      · skip
        have hv : v = R := hv
        subst hv
        exact w74_23  h
      · cases h
    · rw [if_neg hp0] at h
      cases h
set_option maxRecDepth 20000 in
set_option maxHeartbeats 4000000 in
theorem we74 {l0 : Int32} {D : sm_D} {M : sm_M} {R : sm_S} (h : jR_isEnd l0 D M = some R) : sm_WJ smT smCl smSa shM f74 0 0 [.int l0] [] D M R := by
  have e : jR_isEnd l0 D M = (sm_run shM smSa sm_nocal c74 true (fun a D M => some (a, D, M)) (lf74_0 D) 18 (c74.drop 0) [.int l0] [] D M : Option (sm_S)) := rfl
  exact sm_blk (ρ := sm_S) (gd := (fun v => v = R)) (kx := 74) (i := 0) smVM rfl (by decide) (sm_nocal_ok smT smCl smP smSa shM 0) (fun a D M v e1 e2 => by cases e1; exact e2.symm) (ll74_0 D) rfl (e.symm.trans h) rfl
theorem m74 {l0 : Int32} {D : sm_D} {M : sm_M} {R : sm_S} (h : jR_isEnd l0 D M = some R) : sm_MJ smT smCl smSa shM f74 0 [.int l0] D M R :=
  sm_met (by decide) (Nat.le_of_ble_eq_true rfl) (List.all_eq_true.mp rfl) (we74  h)

-- jR_checkBlock
noncomputable def cal75  : sm_Cal := fun x as D M =>
  if x = 74 then (match as with
    | [.int a0] => (jR_isEnd a0 D M)
    | _ => none)
  else if x = 73 then (match as with
    | [.ref 1, .int a1] => (jR_isRight a1 D M)
    | _ => none)
  else none
theorem ck75  : sm_CalOk smT smCl smP smSa shM 4 cal75 := by
  intro x g as D M R hx h
  unfold cal75 at h
  by_cases hx' : x = 74
  · subst hx'
    rw [if_pos (show (74 : Nat) = 74 from rfl)] at h
    cases (show smP[74]? = some f74 from rfl).symm.trans hx
    split at h
    · skip
      exact Or.inl ⟨0, by omega, m74   h⟩
    · cases h
  · rw [if_neg hx'] at h
    by_cases hx' : x = 73
    · subst hx'
      rw [if_pos (show (73 : Nat) = 73 from rfl)] at h
      cases (show smP[73]? = some f73 from rfl).symm.trans hx
      split at h
      · skip
        exact Or.inl ⟨3, by omega, m73   h⟩
      · cases h
    · rw [if_neg hx'] at h
      cases h
def lh75_2 (D : sm_D) (R : sm_S) (s : Int32 × Int32 × sm_M) : Prop := sm_WJ smT smCl smSa shM f75 4 2 [.ref 1, .int (s.1), .int (s.2.1)] [] D (s.2.2) R
def gd75_2 (D : sm_D) (R : sm_S) (v : (Int32 × Int32 × sm_M) ⊕ sm_S) : Prop := match v with
  | .inl s => lh75_2 D R s
  | .inr r => r = R
noncomputable def lf75_34 (D : sm_D) : Nat → List Value → List Value → sm_D → sm_M → Option ((Int32 × Int32 × sm_M) ⊕ sm_S) := fun pc ls st D' M =>
  if pc = 2 then (match ls, st with
    | [.ref 1, .int bl1, .int bl2], [] => (sm_dq D' D (some (.inl (bl1, bl2, M))))
    | _, _ => none)
  else none
theorem ll75_34 (D : sm_D) {R : sm_S} : ∀ (pc : Nat) (ls st : List Value) (D' : sm_D) (M : sm_M) (v : (Int32 × Int32 × sm_M) ⊕ sm_S), (lf75_34 D) pc ls st D' M = some v → (gd75_2 D R) v → sm_WJ smT smCl smSa shM f75 4 pc ls st D' M R := by
  intro pc ls st D' M v h hv
  unfold lf75_34 at h
  by_cases hp0 : pc = 2
  · subst hp0
    rw [if_pos (show (2 : Nat) = 2 from rfl)] at h
    split at h
    · skip
      replace h := sm_dq_inv h
      obtain ⟨he, h⟩ := h
      subst he
      cases h
      exact hv
    · cases h
  · rw [if_neg hp0] at h
    cases h
set_option maxRecDepth 20000 in
set_option maxHeartbeats 4000000 in
theorem w75_34 (D : sm_D) {l1 l2 s1 s2 : Int32} {M : sm_M} {R : sm_S} {v : (Int32 × Int32 × sm_M) ⊕ sm_S} (h : jR_checkBlock_34 l1 l2 s1 s2 D M = some v) (hv : (gd75_2 D R) v) : sm_WJ smT smCl smSa shM f75 4 34 [.ref 1, .int l1, .int l2] [.int s2, .int s1, .ref 53] D M R := by
  have e : jR_checkBlock_34 l1 l2 s1 s2 D M = (sm_run shM smSa cal75 c75 false (fun a D M => some (.inr (a, D, M))) (lf75_34 D) 95 (c75.drop 23) [.ref 1, .int l1, .int l2] [.int s2, .int s1, .ref 53] D M : Option ((Int32 × Int32 × sm_M) ⊕ sm_S)) := rfl
  exact sm_blk (ρ := (Int32 × Int32 × sm_M) ⊕ sm_S) (gd := (gd75_2 D R)) (kx := 75) (i := 23) smVM rfl (by decide) ck75 (fun a D M v e1 e2 => by cases e1; exact e2.symm) (ll75_34 D) rfl (e.symm.trans h) hv
set_option maxRecDepth 20000 in
set_option maxHeartbeats 4000000 in
theorem w75_93 {l2 : Int32} {g0 g1 : Value} {D : sm_D} {M : sm_M} {R : sm_S} (h : jR_checkBlock_93 l2 D M = some R) : sm_WJ smT smCl smSa shM f75 4 93 [g0, g1, .int l2] [] D M R := by
  have e : jR_checkBlock_93 l2 D M = (sm_run shM smSa cal75 c75 false (fun a D M => some (a, D, M)) sm_noleaf 95 (c75.drop 58) [g0, g1, .int l2] [] D M : Option (sm_S)) := rfl
  exact sm_blk (ρ := sm_S) (gd := (fun v => v = R)) (kx := 75) (i := 58) smVM rfl (by decide) ck75 (fun a D M v e1 e2 => by cases e1; exact e2.symm) (sm_noleaf_ok) rfl (e.symm.trans h) rfl
def lh75_43 (D : sm_D) (R : sm_S) (s : Int32 × Int32 × sm_M) : Prop := sm_WJ smT smCl smSa shM f75 4 43 [.ref 1, .int (s.1), .int (s.2.1)] [] D (s.2.2) R
def gd75_43 (D : sm_D) (R : sm_S) (v : (Int32 × Int32 × sm_M) ⊕ sm_S) : Prop := match v with
  | .inl s => lh75_43 D R s
  | .inr r => r = R
noncomputable def lf75_78 (D : sm_D) : Nat → List Value → List Value → sm_D → sm_M → Option ((Int32 × Int32 × sm_M) ⊕ sm_S) := fun pc ls st D' M =>
  if pc = 43 then (match ls, st with
    | [.ref 1, .int bl1, .int bl2], [] => (sm_dq D' D (some (.inl (bl1, bl2, M))))
    | _, _ => none)
  else if pc = 93 then (match ls, st with
    | [gl0, gl1, .int bl2], [] => (sm_inr (jR_checkBlock_93 bl2 D' M))
    | _, _ => none)
  else none
theorem ll75_78 (D : sm_D) {R : sm_S} : ∀ (pc : Nat) (ls st : List Value) (D' : sm_D) (M : sm_M) (v : (Int32 × Int32 × sm_M) ⊕ sm_S), (lf75_78 D) pc ls st D' M = some v → (gd75_43 D R) v → sm_WJ smT smCl smSa shM f75 4 pc ls st D' M R := by
  intro pc ls st D' M v h hv
  unfold lf75_78 at h
  by_cases hp0 : pc = 43
  · subst hp0
    rw [if_pos (show (43 : Nat) = 43 from rfl)] at h
    split at h
    · skip
      replace h := sm_dq_inv h
      obtain ⟨he, h⟩ := h
      subst he
      cases h
      exact hv
    · cases h
  · rw [if_neg hp0] at h
    by_cases hp0 : pc = 93
    · subst hp0
      rw [if_pos (show (93 : Nat) = 93 from rfl)] at h
      split at h
      · skip
        replace h := sm_inr_inv h
        obtain ⟨r, h, he⟩ := h
        subst he
        have hv : r = R := hv
        subst hv
        exact w75_93  h
      · cases h
    · rw [if_neg hp0] at h
      cases h
set_option maxRecDepth 20000 in
set_option maxHeartbeats 4000000 in
theorem w75_78 (D : sm_D) {l1 l2 : Int32} {M : sm_M} {R : sm_S} {v : (Int32 × Int32 × sm_M) ⊕ sm_S} (h : jR_checkBlock_78 l1 l2 D M = some v) (hv : (gd75_43 D R) v) : sm_WJ smT smCl smSa shM f75 4 78 [.ref 1, .int l1, .int l2] [] D M R := by
  have e : jR_checkBlock_78 l1 l2 D M = (sm_run shM smSa cal75 c75 false (fun a D M => some (.inr (a, D, M))) (lf75_78 D) 95 (c75.drop 49) [.ref 1, .int l1, .int l2] [] D M : Option ((Int32 × Int32 × sm_M) ⊕ sm_S)) := rfl
  exact sm_blk (ρ := (Int32 × Int32 × sm_M) ⊕ sm_S) (gd := (gd75_43 D R)) (kx := 75) (i := 49) smVM rfl (by decide) ck75 (fun a D M v e1 e2 => by cases e1; exact e2.symm) (ll75_78 D) rfl (e.symm.trans h) hv
set_option maxRecDepth 20000 in
set_option maxHeartbeats 4000000 in
theorem w75_146 {s0 : Int32} {g0 g1 g2 : Value} {D : sm_D} {M : sm_M} {R : sm_S} (h : jR_checkBlock_146 s0 D M = some R) : sm_WJ smT smCl smSa shM f75 4 146 [g0, g1, g2] [.int s0] D M R := by
  have e : jR_checkBlock_146 s0 D M = (sm_run shM smSa cal75 c75 false (fun a D M => some (a, D, M)) sm_noleaf 95 (c75.drop 89) [g0, g1, g2] [.int s0] D M : Option (sm_S)) := rfl
  exact sm_blk (ρ := sm_S) (gd := (fun v => v = R)) (kx := 75) (i := 89) smVM rfl (by decide) ck75 (fun a D M v e1 e2 => by cases e1; exact e2.symm) (sm_noleaf_ok) rfl (e.symm.trans h) rfl
noncomputable def lf75_140 (D : sm_D) : Nat → List Value → List Value → sm_D → sm_M → Option (sm_S) := fun pc ls st D' M =>
  if pc = 146 then (match ls, st with
    | [gl0, gl1, gl2], [.int bs0] => (jR_checkBlock_146 bs0 D' M)
    | _, _ => none)
  else none
theorem ll75_140 (D : sm_D) {R : sm_S} : ∀ (pc : Nat) (ls st : List Value) (D' : sm_D) (M : sm_M) (v : sm_S), (lf75_140 D) pc ls st D' M = some v → (fun v => v = R) v → sm_WJ smT smCl smSa shM f75 4 pc ls st D' M R := by
  intro pc ls st D' M v h hv
  unfold lf75_140 at h
  by_cases hp0 : pc = 146
  · subst hp0
    rw [if_pos (show (146 : Nat) = 146 from rfl)] at h
    split at h
    · skip
      have hv : v = R := hv
      subst hv
      exact w75_146  h
    · cases h
  · rw [if_neg hp0] at h
    cases h
set_option maxRecDepth 20000 in
set_option maxHeartbeats 4000000 in
theorem w75_140 {l1 : Int32} {g2 : Value} {D : sm_D} {M : sm_M} {R : sm_S} (h : jR_checkBlock_140 l1 D M = some R) : sm_WJ smT smCl smSa shM f75 4 140 [.ref 1, .int l1, g2] [] D M R := by
  have e : jR_checkBlock_140 l1 D M = (sm_run shM smSa cal75 c75 false (fun a D M => some (a, D, M)) (lf75_140 D) 95 (c75.drop 85) [.ref 1, .int l1, g2] [] D M : Option (sm_S)) := rfl
  exact sm_blk (ρ := sm_S) (gd := (fun v => v = R)) (kx := 75) (i := 85) smVM rfl (by decide) ck75 (fun a D M v e1 e2 => by cases e1; exact e2.symm) (ll75_140 D) rfl (e.symm.trans h) rfl
noncomputable def lf75_43 (D : sm_D) : Nat → List Value → List Value → sm_D → sm_M → Option ((Int32 × Int32 × sm_M) ⊕ sm_S) := fun pc ls st D' M =>
  if pc = 78 then (match ls, st with
    | [.ref 1, .int bl1, .int bl2], [] => (sm_dq D' D (jR_checkBlock_78 bl1 bl2 D' M))
    | _, _ => none)
  else if pc = 93 then (match ls, st with
    | [gl0, gl1, .int bl2], [] => (sm_inr (jR_checkBlock_93 bl2 D' M))
    | _, _ => none)
  else if pc = 140 then (match ls, st with
    | [.ref 1, .int bl1, gl2], [] => (sm_inr (jR_checkBlock_140 bl1 D' M))
    | _, _ => none)
  else if pc = 146 then (match ls, st with
    | [gl0, gl1, gl2], [.int bs0] => (sm_inr (jR_checkBlock_146 bs0 D' M))
    | _, _ => none)
  else none
theorem ll75_43 (D : sm_D) {R : sm_S} : ∀ (pc : Nat) (ls st : List Value) (D' : sm_D) (M : sm_M) (v : (Int32 × Int32 × sm_M) ⊕ sm_S), (lf75_43 D) pc ls st D' M = some v → (gd75_43 D R) v → sm_WJ smT smCl smSa shM f75 4 pc ls st D' M R := by
  intro pc ls st D' M v h hv
  unfold lf75_43 at h
  by_cases hp0 : pc = 78
  · subst hp0
    rw [if_pos (show (78 : Nat) = 78 from rfl)] at h
    split at h
    · skip
      replace h := sm_dq_inv h
      obtain ⟨he, h⟩ := h
      subst he
      exact w75_78 _ h hv
    · cases h
  · rw [if_neg hp0] at h
    by_cases hp0 : pc = 93
    · subst hp0
      rw [if_pos (show (93 : Nat) = 93 from rfl)] at h
      split at h
      · skip
        replace h := sm_inr_inv h
        obtain ⟨r, h, he⟩ := h
        subst he
        have hv : r = R := hv
        subst hv
        exact w75_93  h
      · cases h
    · rw [if_neg hp0] at h
      by_cases hp0 : pc = 140
      · subst hp0
        rw [if_pos (show (140 : Nat) = 140 from rfl)] at h
        split at h
        · skip
          replace h := sm_inr_inv h
          obtain ⟨r, h, he⟩ := h
          subst he
          have hv : r = R := hv
          subst hv
          exact w75_140  h
        · cases h
      · rw [if_neg hp0] at h
        by_cases hp0 : pc = 146
        · subst hp0
          rw [if_pos (show (146 : Nat) = 146 from rfl)] at h
          split at h
          · skip
            replace h := sm_inr_inv h
            obtain ⟨r, h, he⟩ := h
            subst he
            have hv : r = R := hv
            subst hv
            exact w75_146  h
          · cases h
        · rw [if_neg hp0] at h
          cases h
set_option maxRecDepth 20000 in
set_option maxHeartbeats 4000000 in
theorem wc75_43 (D : sm_D) {l1 l2 : Int32} {M : sm_M} {R : sm_S} {v : (Int32 × Int32 × sm_M) ⊕ sm_S} (h : jR_checkBlock_43_c l1 l2 D M = some v) (hv : (gd75_43 D R) v) : sm_WJ smT smCl smSa shM f75 4 43 [.ref 1, .int l1, .int l2] [] D M R := by
  have e : jR_checkBlock_43_c l1 l2 D M = (sm_run shM smSa cal75 c75 false (fun a D M => some (.inr (a, D, M))) (lf75_43 D) 95 (c75.drop 28) [.ref 1, .int l1, .int l2] [] D M : Option ((Int32 × Int32 × sm_M) ⊕ sm_S)) := rfl
  exact sm_blk (ρ := (Int32 × Int32 × sm_M) ⊕ sm_S) (gd := (gd75_43 D R)) (kx := 75) (i := 28) smVM rfl (by decide) ck75 (fun a D M v e1 e2 => by cases e1; exact e2.symm) (ll75_43 D) rfl (e.symm.trans h) hv
theorem w75_43 {l1 l2 : Int32} {D : sm_D} {M : sm_M} {R : sm_S} (h : jR_checkBlock_43 l1 l2 D M = some R) : sm_WJ smT smCl smSa shM f75 4 43 [.ref 1, .int l1, .int l2] [] D M R := by
  have hh : lh75_43 D R (l1, l2, M) := by
    refine sm_lp_ind (b := jR_checkBlock_43_b D) (r := R) (lh75_43 D R) ?_ h
    intro s v hb h1 h2
    obtain ⟨z0, z1, M1⟩ := s
    have hv : gd75_43 D R v := by
      cases v with
      | inl s' => exact h1 s' rfl
      | inr r => exact h2 r rfl
    exact wc75_43 D hb hv
  exact hh
noncomputable def lf75_2 (D : sm_D) : Nat → List Value → List Value → sm_D → sm_M → Option ((Int32 × Int32 × sm_M) ⊕ sm_S) := fun pc ls st D' M =>
  if pc = 34 then (match ls, st with
    | [.ref 1, .int bl1, .int bl2], [.int bs2, .int bs1, .ref 53] => (sm_dq D' D (jR_checkBlock_34 bl1 bl2 bs1 bs2 D' M))
    | _, _ => none)
  else if pc = 43 then (match ls, st with
    | [.ref 1, .int bl1, .int bl2], [] => (sm_inr (jR_checkBlock_43 bl1 bl2 D' M))
    | _, _ => none)
  else none
theorem ll75_2 (D : sm_D) {R : sm_S} : ∀ (pc : Nat) (ls st : List Value) (D' : sm_D) (M : sm_M) (v : (Int32 × Int32 × sm_M) ⊕ sm_S), (lf75_2 D) pc ls st D' M = some v → (gd75_2 D R) v → sm_WJ smT smCl smSa shM f75 4 pc ls st D' M R := by
  intro pc ls st D' M v h hv
  unfold lf75_2 at h
  by_cases hp0 : pc = 34
  · subst hp0
    rw [if_pos (show (34 : Nat) = 34 from rfl)] at h
    split at h
    · skip
      replace h := sm_dq_inv h
      obtain ⟨he, h⟩ := h
      subst he
      exact w75_34 _ h hv
    · cases h
  · rw [if_neg hp0] at h
    by_cases hp0 : pc = 43
    · subst hp0
      rw [if_pos (show (43 : Nat) = 43 from rfl)] at h
      split at h
      · skip
        replace h := sm_inr_inv h
        obtain ⟨r, h, he⟩ := h
        subst he
        have hv : r = R := hv
        subst hv
        exact w75_43  h
      · cases h
    · rw [if_neg hp0] at h
      cases h
set_option maxRecDepth 20000 in
set_option maxHeartbeats 4000000 in
theorem wc75_2 (D : sm_D) {l1 l2 : Int32} {M : sm_M} {R : sm_S} {v : (Int32 × Int32 × sm_M) ⊕ sm_S} (h : jR_checkBlock_2_c l1 l2 D M = some v) (hv : (gd75_2 D R) v) : sm_WJ smT smCl smSa shM f75 4 2 [.ref 1, .int l1, .int l2] [] D M R := by
  have e : jR_checkBlock_2_c l1 l2 D M = (sm_run shM smSa cal75 c75 false (fun a D M => some (.inr (a, D, M))) (lf75_2 D) 95 (c75.drop 2) [.ref 1, .int l1, .int l2] [] D M : Option ((Int32 × Int32 × sm_M) ⊕ sm_S)) := rfl
  exact sm_blk (ρ := (Int32 × Int32 × sm_M) ⊕ sm_S) (gd := (gd75_2 D R)) (kx := 75) (i := 2) smVM rfl (by decide) ck75 (fun a D M v e1 e2 => by cases e1; exact e2.symm) (ll75_2 D) rfl (e.symm.trans h) hv
theorem w75_2 {l1 l2 : Int32} {D : sm_D} {M : sm_M} {R : sm_S} (h : jR_checkBlock_2 l1 l2 D M = some R) : sm_WJ smT smCl smSa shM f75 4 2 [.ref 1, .int l1, .int l2] [] D M R := by
  have hh : lh75_2 D R (l1, l2, M) := by
    refine sm_lp_ind (b := jR_checkBlock_2_b D) (r := R) (lh75_2 D R) ?_ h
    intro s v hb h1 h2
    obtain ⟨z0, z1, M1⟩ := s
    have hv : gd75_2 D R v := by
      cases v with
      | inl s' => exact h1 s' rfl
      | inr r => exact h2 r rfl
    exact wc75_2 D hb hv
  exact hh
noncomputable def lf75_0 (D : sm_D) : Nat → List Value → List Value → sm_D → sm_M → Option (sm_S) := fun pc ls st D' M =>
  if pc = 2 then (match ls, st with
    | [.ref 1, .int bl1, .int bl2], [] => (jR_checkBlock_2 bl1 bl2 D' M)
    | _, _ => none)
  else none
theorem ll75_0 (D : sm_D) {R : sm_S} : ∀ (pc : Nat) (ls st : List Value) (D' : sm_D) (M : sm_M) (v : sm_S), (lf75_0 D) pc ls st D' M = some v → (fun v => v = R) v → sm_WJ smT smCl smSa shM f75 4 pc ls st D' M R := by
  intro pc ls st D' M v h hv
  unfold lf75_0 at h
  by_cases hp0 : pc = 2
  · subst hp0
    rw [if_pos (show (2 : Nat) = 2 from rfl)] at h
    split at h
    · skip
      have hv : v = R := hv
      subst hv
      exact w75_2  h
    · cases h
  · rw [if_neg hp0] at h
    cases h
set_option maxRecDepth 20000 in
set_option maxHeartbeats 4000000 in
theorem we75 {l1 : Int32} {D : sm_D} {M : sm_M} {R : sm_S} (h : jR_checkBlock l1 D M = some R) : sm_WJ smT smCl smSa shM f75 4 0 [.ref 1, .int l1, .retAddr 0] [] D M R := by
  have e : jR_checkBlock l1 D M = (sm_run shM smSa cal75 c75 false (fun a D M => some (a, D, M)) (lf75_0 D) 95 (c75.drop 0) [.ref 1, .int l1, .retAddr 0] [] D M : Option (sm_S)) := rfl
  exact sm_blk (ρ := sm_S) (gd := (fun v => v = R)) (kx := 75) (i := 0) smVM rfl (by decide) ck75 (fun a D M v e1 e2 => by cases e1; exact e2.symm) (ll75_0 D) rfl (e.symm.trans h) rfl
theorem m75 {l1 : Int32} {D : sm_D} {M : sm_M} {R : sm_S} (h : jR_checkBlock l1 D M = some R) : sm_MJ smT smCl smSa shM f75 4 [.ref 1, .int l1] D M R :=
  sm_met (by decide) (Nat.le_of_ble_eq_true rfl) (List.all_eq_true.mp rfl) (we75  h)

-- jR_check
noncomputable def cal76  : sm_Cal := fun x as D M =>
  if x = 75 then (match as with
    | [.ref 1, .int a1] => (jR_checkBlock a1 D M)
    | _ => none)
  else none
theorem ck76  : sm_CalOk smT smCl smP smSa shM 5 cal76 := by
  intro x g as D M R hx h
  unfold cal76 at h
  by_cases hx' : x = 75
  · subst hx'
    rw [if_pos (show (75 : Nat) = 75 from rfl)] at h
    cases (show smP[75]? = some f75 from rfl).symm.trans hx
    split at h
    · skip
      exact Or.inl ⟨4, by omega, m75   h⟩
    · cases h
  · rw [if_neg hx'] at h
    cases h
set_option maxRecDepth 20000 in
set_option maxHeartbeats 4000000 in
theorem w76_39 {g0 g1 g2 g3 g4 : Value} {D : sm_D} {M : sm_M} {R : sm_S} (h : jR_check_39 D M = some R) : sm_WJ smT smCl smSa shM f76 5 39 [g0, g1, g2, g3, g4] [] D M R := by
  have e : jR_check_39 D M = (sm_run shM smSa cal76 c76 false (fun a D M => some (a, D, M)) sm_noleaf 62 (c76.drop 21) [g0, g1, g2, g3, g4] [] D M : Option (sm_S)) := rfl
  exact sm_blk (ρ := sm_S) (gd := (fun v => v = R)) (kx := 76) (i := 21) smVM rfl (by decide) ck76 (fun a D M v e1 e2 => by cases e1; exact e2.symm) (sm_noleaf_ok) rfl (e.symm.trans h) rfl
def lh76_50 (D : sm_D) (R : sm_S) (s : Int32 × Int32 × Int32 × sm_M) : Prop := ∀ (g4 : Value), sm_WJ smT smCl smSa shM f76 5 50 [.ref 1, .int (s.1), .int (s.2.1), .int (s.2.2.1), g4] [] D (s.2.2.2) R
def gd76_50 (D : sm_D) (R : sm_S) (v : (Int32 × Int32 × Int32 × sm_M) ⊕ sm_S) : Prop := match v with
  | .inl s => lh76_50 D R s
  | .inr r => r = R
noncomputable def lf76_86 (D : sm_D) : Nat → List Value → List Value → sm_D → sm_M → Option ((Int32 × Int32 × Int32 × sm_M) ⊕ sm_S) := fun pc ls st D' M =>
  if pc = 50 then (match ls, st with
    | [.ref 1, .int bl1, .int bl2, .int bl3, gl4], [] => (sm_dq D' D (some (.inl (bl1, bl2, bl3, M))))
    | _, _ => none)
  else none
theorem ll76_86 (D : sm_D) {R : sm_S} : ∀ (pc : Nat) (ls st : List Value) (D' : sm_D) (M : sm_M) (v : (Int32 × Int32 × Int32 × sm_M) ⊕ sm_S), (lf76_86 D) pc ls st D' M = some v → (gd76_50 D R) v → sm_WJ smT smCl smSa shM f76 5 pc ls st D' M R := by
  intro pc ls st D' M v h hv
  unfold lf76_86 at h
  by_cases hp0 : pc = 50
  · subst hp0
    rw [if_pos (show (50 : Nat) = 50 from rfl)] at h
    split at h
    · skip
      replace h := sm_dq_inv h
      obtain ⟨he, h⟩ := h
      subst he
      cases h
      exact hv _
    · cases h
  · rw [if_neg hp0] at h
    cases h
set_option maxRecDepth 20000 in
set_option maxHeartbeats 4000000 in
theorem w76_86 (D : sm_D) {l1 l3 s0 : Int32} {g2 g4 : Value} {M : sm_M} {R : sm_S} {v : (Int32 × Int32 × Int32 × sm_M) ⊕ sm_S} (h : jR_check_86 l1 l3 s0 D M = some v) (hv : (gd76_50 D R) v) : sm_WJ smT smCl smSa shM f76 5 86 [.ref 1, .int l1, g2, .int l3, g4] [.int s0] D M R := by
  have e : jR_check_86 l1 l3 s0 D M = (sm_run shM smSa cal76 c76 false (fun a D M => some (.inr (a, D, M))) (lf76_86 D) 62 (c76.drop 49) [.ref 1, .int l1, g2, .int l3, g4] [.int s0] D M : Option ((Int32 × Int32 × Int32 × sm_M) ⊕ sm_S)) := rfl
  exact sm_blk (ρ := (Int32 × Int32 × Int32 × sm_M) ⊕ sm_S) (gd := (gd76_50 D R)) (kx := 76) (i := 49) smVM rfl (by decide) ck76 (fun a D M v e1 e2 => by cases e1; exact e2.symm) (ll76_86 D) rfl (e.symm.trans h) hv
set_option maxRecDepth 20000 in
set_option maxHeartbeats 4000000 in
theorem w76_98 {l2 : Int32} {g0 g1 g3 g4 : Value} {D : sm_D} {M : sm_M} {R : sm_S} (h : jR_check_98 l2 D M = some R) : sm_WJ smT smCl smSa shM f76 5 98 [g0, g1, .int l2, g3, g4] [] D M R := by
  have e : jR_check_98 l2 D M = (sm_run shM smSa cal76 c76 false (fun a D M => some (a, D, M)) sm_noleaf 62 (c76.drop 55) [g0, g1, .int l2, g3, g4] [] D M : Option (sm_S)) := rfl
  exact sm_blk (ρ := sm_S) (gd := (fun v => v = R)) (kx := 76) (i := 55) smVM rfl (by decide) ck76 (fun a D M v e1 e2 => by cases e1; exact e2.symm) (sm_noleaf_ok) rfl (e.symm.trans h) rfl
noncomputable def lf76_50 (D : sm_D) : Nat → List Value → List Value → sm_D → sm_M → Option ((Int32 × Int32 × Int32 × sm_M) ⊕ sm_S) := fun pc ls st D' M =>
  if pc = 86 then (match ls, st with
    | [.ref 1, .int bl1, gl2, .int bl3, gl4], [.int bs0] => (sm_dq D' D (jR_check_86 bl1 bl3 bs0 D' M))
    | _, _ => none)
  else if pc = 98 then (match ls, st with
    | [gl0, gl1, .int bl2, gl3, gl4], [] => (sm_inr (jR_check_98 bl2 D' M))
    | _, _ => none)
  else none
theorem ll76_50 (D : sm_D) {R : sm_S} : ∀ (pc : Nat) (ls st : List Value) (D' : sm_D) (M : sm_M) (v : (Int32 × Int32 × Int32 × sm_M) ⊕ sm_S), (lf76_50 D) pc ls st D' M = some v → (gd76_50 D R) v → sm_WJ smT smCl smSa shM f76 5 pc ls st D' M R := by
  intro pc ls st D' M v h hv
  unfold lf76_50 at h
  by_cases hp0 : pc = 86
  · subst hp0
    rw [if_pos (show (86 : Nat) = 86 from rfl)] at h
    split at h
    · skip
      replace h := sm_dq_inv h
      obtain ⟨he, h⟩ := h
      subst he
      exact w76_86 _ h hv
    · cases h
  · rw [if_neg hp0] at h
    by_cases hp0 : pc = 98
    · subst hp0
      rw [if_pos (show (98 : Nat) = 98 from rfl)] at h
      split at h
      · skip
        replace h := sm_inr_inv h
        obtain ⟨r, h, he⟩ := h
        subst he
        have hv : r = R := hv
        subst hv
        exact w76_98  h
      · cases h
    · rw [if_neg hp0] at h
      cases h
set_option maxRecDepth 20000 in
set_option maxHeartbeats 4000000 in
theorem wc76_50 (D : sm_D) {l1 l2 l3 : Int32} {g4 : Value} {M : sm_M} {R : sm_S} {v : (Int32 × Int32 × Int32 × sm_M) ⊕ sm_S} (h : jR_check_50_c l1 l2 l3 D M = some v) (hv : (gd76_50 D R) v) : sm_WJ smT smCl smSa shM f76 5 50 [.ref 1, .int l1, .int l2, .int l3, g4] [] D M R := by
  have e : jR_check_50_c l1 l2 l3 D M = (sm_run shM smSa cal76 c76 false (fun a D M => some (.inr (a, D, M))) (lf76_50 D) 62 (c76.drop 30) [.ref 1, .int l1, .int l2, .int l3, g4] [] D M : Option ((Int32 × Int32 × Int32 × sm_M) ⊕ sm_S)) := rfl
  exact sm_blk (ρ := (Int32 × Int32 × Int32 × sm_M) ⊕ sm_S) (gd := (gd76_50 D R)) (kx := 76) (i := 30) smVM rfl (by decide) ck76 (fun a D M v e1 e2 => by cases e1; exact e2.symm) (ll76_50 D) rfl (e.symm.trans h) hv
theorem w76_50 {l1 l2 l3 : Int32} {g4 : Value} {D : sm_D} {M : sm_M} {R : sm_S} (h : jR_check_50 l1 l2 l3 D M = some R) : sm_WJ smT smCl smSa shM f76 5 50 [.ref 1, .int l1, .int l2, .int l3, g4] [] D M R := by
  have hh : lh76_50 D R (l1, l2, l3, M) := by
    refine sm_lp_ind (b := jR_check_50_b D) (r := R) (lh76_50 D R) ?_ h
    intro s v hb h1 h2
    obtain ⟨z0, z1, z2, M1⟩ := s
    have hv : gd76_50 D R v := by
      cases v with
      | inl s' => exact h1 s' rfl
      | inr r => exact h2 r rfl
    intro g4
    exact wc76_50 D hb hv
  exact hh _
noncomputable def lf76_0 (D : sm_D) : Nat → List Value → List Value → sm_D → sm_M → Option (sm_S) := fun pc ls st D' M =>
  if pc = 39 then (match ls, st with
    | [gl0, gl1, gl2, gl3, gl4], [] => (jR_check_39 D' M)
    | _, _ => none)
  else if pc = 50 then (match ls, st with
    | [.ref 1, .int bl1, .int bl2, .int bl3, gl4], [] => (jR_check_50 bl1 bl2 bl3 D' M)
    | _, _ => none)
  else none
theorem ll76_0 (D : sm_D) {R : sm_S} : ∀ (pc : Nat) (ls st : List Value) (D' : sm_D) (M : sm_M) (v : sm_S), (lf76_0 D) pc ls st D' M = some v → (fun v => v = R) v → sm_WJ smT smCl smSa shM f76 5 pc ls st D' M R := by
  intro pc ls st D' M v h hv
  unfold lf76_0 at h
  by_cases hp0 : pc = 39
  · subst hp0
    rw [if_pos (show (39 : Nat) = 39 from rfl)] at h
    split at h
    · skip
      have hv : v = R := hv
      subst hv
      exact w76_39  h
    · cases h
  · rw [if_neg hp0] at h
    by_cases hp0 : pc = 50
    · subst hp0
      rw [if_pos (show (50 : Nat) = 50 from rfl)] at h
      split at h
      · skip
        have hv : v = R := hv
        subst hv
        exact w76_50  h
      · cases h
    · rw [if_neg hp0] at h
      cases h
set_option maxRecDepth 20000 in
set_option maxHeartbeats 4000000 in
theorem we76 {D : sm_D} {M : sm_M} {R : sm_S} (h : jR_check D M = some R) : sm_WJ smT smCl smSa shM f76 5 0 [.ref 1, .retAddr 0, .retAddr 0, .retAddr 0, .retAddr 0] [] D M R := by
  have e : jR_check D M = (sm_run shM smSa cal76 c76 false (fun a D M => some (a, D, M)) (lf76_0 D) 62 (c76.drop 0) [.ref 1, .retAddr 0, .retAddr 0, .retAddr 0, .retAddr 0] [] D M : Option (sm_S)) := rfl
  exact sm_blk (ρ := sm_S) (gd := (fun v => v = R)) (kx := 76) (i := 0) smVM rfl (by decide) ck76 (fun a D M v e1 e2 => by cases e1; exact e2.symm) (ll76_0 D) rfl (e.symm.trans h) rfl
theorem m76 {D : sm_D} {M : sm_M} {R : sm_S} (h : jR_check D M = some R) : sm_MJ smT smCl smSa shM f76 5 [.ref 1] D M R :=
  sm_met (by decide) (Nat.le_of_ble_eq_true rfl) (List.all_eq_true.mp rfl) (we76  h)

-- jR_instruction
set_option maxRecDepth 20000 in
set_option maxHeartbeats 4000000 in
theorem w77_17 {g0 g1 g2 : Value} {D : sm_D} {M : sm_M} {R : sm_S} (h : jR_instruction_17 D M = some R) : sm_WJ smT smCl smSa shM f77 0 17 [g0, g1, g2] [] D M R := by
  have e : jR_instruction_17 D M = (sm_run shM smSa sm_nocal c77 false (fun a D M => some (a, D, M)) sm_noleaf 63 (c77.drop 9) [g0, g1, g2] [] D M : Option (sm_S)) := rfl
  exact sm_blk (ρ := sm_S) (gd := (fun v => v = R)) (kx := 77) (i := 9) smVM rfl (by decide) (sm_nocal_ok smT smCl smP smSa shM 0) (fun a D M v e1 e2 => by cases e1; exact e2.symm) (sm_noleaf_ok) rfl (e.symm.trans h) rfl
set_option maxRecDepth 20000 in
set_option maxHeartbeats 4000000 in
theorem w77_100 {s0 : Int32} {g0 g1 g2 : Value} {D : sm_D} {M : sm_M} {R : sm_S} (h : jR_instruction_100 s0 D M = some R) : sm_WJ smT smCl smSa shM f77 0 100 [g0, g1, g2] [.int s0] D M R := by
  have e : jR_instruction_100 s0 D M = (sm_run shM smSa sm_nocal c77 false (fun a D M => some (a, D, M)) sm_noleaf 63 (c77.drop 57) [g0, g1, g2] [.int s0] D M : Option (sm_S)) := rfl
  exact sm_blk (ρ := sm_S) (gd := (fun v => v = R)) (kx := 77) (i := 57) smVM rfl (by decide) (sm_nocal_ok smT smCl smP smSa shM 0) (fun a D M v e1 e2 => by cases e1; exact e2.symm) (sm_noleaf_ok) rfl (e.symm.trans h) rfl
noncomputable def lf77_0 (D : sm_D) : Nat → List Value → List Value → sm_D → sm_M → Option (sm_S) := fun pc ls st D' M =>
  if pc = 17 then (match ls, st with
    | [gl0, gl1, gl2], [] => (jR_instruction_17 D' M)
    | _, _ => none)
  else if pc = 100 then (match ls, st with
    | [gl0, gl1, gl2], [.int bs0] => (jR_instruction_100 bs0 D' M)
    | _, _ => none)
  else none
theorem ll77_0 (D : sm_D) {R : sm_S} : ∀ (pc : Nat) (ls st : List Value) (D' : sm_D) (M : sm_M) (v : sm_S), (lf77_0 D) pc ls st D' M = some v → (fun v => v = R) v → sm_WJ smT smCl smSa shM f77 0 pc ls st D' M R := by
  intro pc ls st D' M v h hv
  unfold lf77_0 at h
  by_cases hp0 : pc = 17
  · subst hp0
    rw [if_pos (show (17 : Nat) = 17 from rfl)] at h
    split at h
    · skip
      have hv : v = R := hv
      subst hv
      exact w77_17  h
    · cases h
  · rw [if_neg hp0] at h
    by_cases hp0 : pc = 100
    · subst hp0
      rw [if_pos (show (100 : Nat) = 100 from rfl)] at h
      split at h
      · skip
        have hv : v = R := hv
        subst hv
        exact w77_100  h
      · cases h
    · rw [if_neg hp0] at h
      cases h
set_option maxRecDepth 20000 in
set_option maxHeartbeats 4000000 in
theorem we77 {l1 l2 : Int32} {D : sm_D} {M : sm_M} {R : sm_S} (h : jR_instruction l1 l2 D M = some R) : sm_WJ smT smCl smSa shM f77 0 0 [.ref 1, .int l1, .int l2] [] D M R := by
  have e : jR_instruction l1 l2 D M = (sm_run shM smSa sm_nocal c77 false (fun a D M => some (a, D, M)) (lf77_0 D) 63 (c77.drop 0) [.ref 1, .int l1, .int l2] [] D M : Option (sm_S)) := rfl
  exact sm_blk (ρ := sm_S) (gd := (fun v => v = R)) (kx := 77) (i := 0) smVM rfl (by decide) (sm_nocal_ok smT smCl smP smSa shM 0) (fun a D M v e1 e2 => by cases e1; exact e2.symm) (ll77_0 D) rfl (e.symm.trans h) rfl
theorem m77 {l1 l2 : Int32} {D : sm_D} {M : sm_M} {R : sm_S} (h : jR_instruction l1 l2 D M = some R) : sm_MJ smT smCl smSa shM f77 0 [.ref 1, .int l1, .int l2] D M R :=
  sm_met (by decide) (Nat.le_of_ble_eq_true rfl) (List.all_eq_true.mp rfl) (we77  h)

-- jR_look
noncomputable def cal78  : sm_Cal := fun x as D M =>
  if x = 17 then (match as with
    | [.ref 1, .int a1] => (jR_sizeOf a1 D M)
    | _ => none)
  else none
theorem ck78  : sm_CalOk smT smCl smP smSa shM 1 cal78 := by
  intro x g as D M R hx h
  unfold cal78 at h
  by_cases hx' : x = 17
  · subst hx'
    rw [if_pos (show (17 : Nat) = 17 from rfl)] at h
    cases (show smP[17]? = some f17 from rfl).symm.trans hx
    split at h
    · skip
      exact Or.inl ⟨0, by omega, m17   h⟩
    · cases h
  · rw [if_neg hx'] at h
    cases h
set_option maxRecDepth 20000 in
set_option maxHeartbeats 4000000 in
theorem w78_26 {g0 g1 g2 : Value} {D : sm_D} {M : sm_M} {R : sm_S} (h : jR_look_26 D M = some R) : sm_WJ smT smCl smSa shM f78 1 26 [g0, g1, g2] [] D M R := by
  have e : jR_look_26 D M = (sm_run shM smSa cal78 c78 false (fun a D M => some (a, D, M)) sm_noleaf 49 (c78.drop 14) [g0, g1, g2] [] D M : Option (sm_S)) := rfl
  exact sm_blk (ρ := sm_S) (gd := (fun v => v = R)) (kx := 78) (i := 14) smVM rfl (by decide) ck78 (fun a D M v e1 e2 => by cases e1; exact e2.symm) (sm_noleaf_ok) rfl (e.symm.trans h) rfl
set_option maxRecDepth 20000 in
set_option maxHeartbeats 4000000 in
theorem w78_71 {s0 : Int32} {g0 g1 g2 : Value} {D : sm_D} {M : sm_M} {R : sm_S} (h : jR_look_71 s0 D M = some R) : sm_WJ smT smCl smSa shM f78 1 71 [g0, g1, g2] [.int s0] D M R := by
  have e : jR_look_71 s0 D M = (sm_run shM smSa cal78 c78 false (fun a D M => some (a, D, M)) sm_noleaf 49 (c78.drop 43) [g0, g1, g2] [.int s0] D M : Option (sm_S)) := rfl
  exact sm_blk (ρ := sm_S) (gd := (fun v => v = R)) (kx := 78) (i := 43) smVM rfl (by decide) ck78 (fun a D M v e1 e2 => by cases e1; exact e2.symm) (sm_noleaf_ok) rfl (e.symm.trans h) rfl
noncomputable def lf78_0 (D : sm_D) : Nat → List Value → List Value → sm_D → sm_M → Option (sm_S) := fun pc ls st D' M =>
  if pc = 26 then (match ls, st with
    | [gl0, gl1, gl2], [] => (jR_look_26 D' M)
    | _, _ => none)
  else if pc = 71 then (match ls, st with
    | [gl0, gl1, gl2], [.int bs0] => (jR_look_71 bs0 D' M)
    | _, _ => none)
  else none
theorem ll78_0 (D : sm_D) {R : sm_S} : ∀ (pc : Nat) (ls st : List Value) (D' : sm_D) (M : sm_M) (v : sm_S), (lf78_0 D) pc ls st D' M = some v → (fun v => v = R) v → sm_WJ smT smCl smSa shM f78 1 pc ls st D' M R := by
  intro pc ls st D' M v h hv
  unfold lf78_0 at h
  by_cases hp0 : pc = 26
  · subst hp0
    rw [if_pos (show (26 : Nat) = 26 from rfl)] at h
    split at h
    · skip
      have hv : v = R := hv
      subst hv
      exact w78_26  h
    · cases h
  · rw [if_neg hp0] at h
    by_cases hp0 : pc = 71
    · subst hp0
      rw [if_pos (show (71 : Nat) = 71 from rfl)] at h
      split at h
      · skip
        have hv : v = R := hv
        subst hv
        exact w78_71  h
      · cases h
    · rw [if_neg hp0] at h
      cases h
set_option maxRecDepth 20000 in
set_option maxHeartbeats 4000000 in
theorem we78 {l1 l2 : Int32} {D : sm_D} {M : sm_M} {R : sm_S} (h : jR_look l1 l2 D M = some R) : sm_WJ smT smCl smSa shM f78 1 0 [.ref 1, .int l1, .int l2] [] D M R := by
  have e : jR_look l1 l2 D M = (sm_run shM smSa cal78 c78 false (fun a D M => some (a, D, M)) (lf78_0 D) 49 (c78.drop 0) [.ref 1, .int l1, .int l2] [] D M : Option (sm_S)) := rfl
  exact sm_blk (ρ := sm_S) (gd := (fun v => v = R)) (kx := 78) (i := 0) smVM rfl (by decide) ck78 (fun a D M v e1 e2 => by cases e1; exact e2.symm) (ll78_0 D) rfl (e.symm.trans h) rfl
theorem m78 {l1 l2 : Int32} {D : sm_D} {M : sm_M} {R : sm_S} (h : jR_look l1 l2 D M = some R) : sm_MJ smT smCl smSa shM f78 1 [.ref 1, .int l1, .int l2] D M R :=
  sm_met (by decide) (Nat.le_of_ble_eq_true rfl) (List.all_eq_true.mp rfl) (we78  h)

-- jR_put
set_option maxRecDepth 20000 in
set_option maxHeartbeats 4000000 in
theorem we80 {l1 l2 l3 : Int32} {D : sm_D} {M : sm_M} {R : sm_S} (h : jR_put l1 l2 l3 D M = some R) : sm_WJ smT smCl smSa shM f80 0 0 [.ref 1, .int l1, .int l2, .int l3] [] D M R := by
  have e : jR_put l1 l2 l3 D M = (sm_run shM smSa sm_nocal c80 false (fun a D M => some (a, D, M)) sm_noleaf 16 (c80.drop 0) [.ref 1, .int l1, .int l2, .int l3] [] D M : Option (sm_S)) := rfl
  exact sm_blk (ρ := sm_S) (gd := (fun v => v = R)) (kx := 80) (i := 0) smVM rfl (by decide) (sm_nocal_ok smT smCl smP smSa shM 0) (fun a D M v e1 e2 => by cases e1; exact e2.symm) (sm_noleaf_ok) rfl (e.symm.trans h) rfl
theorem m80 {l1 l2 l3 : Int32} {D : sm_D} {M : sm_M} {R : sm_S} (h : jR_put l1 l2 l3 D M = some R) : sm_MJ smT smCl smSa shM f80 0 [.ref 1, .int l1, .int l2, .int l3] D M R :=
  sm_met (by decide) (Nat.le_of_ble_eq_true rfl) (List.all_eq_true.mp rfl) (we80  h)

-- jR_go
set_option maxRecDepth 20000 in
set_option maxHeartbeats 4000000 in
theorem we81 {l1 : Int32} {D : sm_D} {M : sm_M} {R : sm_S} (h : jR_go l1 D M = some R) : sm_WJ smT smCl smSa shM f81 0 0 [.ref 1, .int l1] [] D M R := by
  have e : jR_go l1 D M = (sm_run shM smSa sm_nocal c81 true (fun a D M => some (a, D, M)) sm_noleaf 30 (c81.drop 0) [.ref 1, .int l1] [] D M : Option (sm_S)) := rfl
  exact sm_blk (ρ := sm_S) (gd := (fun v => v = R)) (kx := 81) (i := 0) smVM rfl (by decide) (sm_nocal_ok smT smCl smP smSa shM 0) (fun a D M v e1 e2 => by cases e1; exact e2.symm) (sm_noleaf_ok) rfl (e.symm.trans h) rfl
theorem m81 {l1 : Int32} {D : sm_D} {M : sm_M} {R : sm_S} (h : jR_go l1 D M = some R) : sm_MJ smT smCl smSa shM f81 0 [.ref 1, .int l1] D M R :=
  sm_met (by decide) (Nat.le_of_ble_eq_true rfl) (List.all_eq_true.mp rfl) (we81  h)

-- jR_calculate
noncomputable def cal82  : sm_Cal := fun x as D M =>
  if x = 34 then (match as with
    | [.int a0, .int a1, .int a2] => (jR_result a0 a1 a2 D M)
    | _ => none)
  else if x = 80 then (match as with
    | [.ref 1, .int a1, .int a2, .int a3] => (jR_put a1 a2 a3 D M)
    | _ => none)
  else none
theorem ck82  : sm_CalOk smT smCl smP smSa shM 1 cal82 := by
  intro x g as D M R hx h
  unfold cal82 at h
  by_cases hx' : x = 34
  · subst hx'
    rw [if_pos (show (34 : Nat) = 34 from rfl)] at h
    cases (show smP[34]? = some f34 from rfl).symm.trans hx
    split at h
    · skip
      exact Or.inl ⟨0, by omega, m34   h⟩
    · cases h
  · rw [if_neg hx'] at h
    by_cases hx' : x = 80
    · subst hx'
      rw [if_pos (show (80 : Nat) = 80 from rfl)] at h
      cases (show smP[80]? = some f80 from rfl).symm.trans hx
      split at h
      · skip
        exact Or.inl ⟨0, by omega, m80   h⟩
      · cases h
    · rw [if_neg hx'] at h
      cases h
set_option maxRecDepth 20000 in
set_option maxHeartbeats 4000000 in
theorem w82_21 {g0 g1 g2 g3 g4 : Value} {D : sm_D} {M : sm_M} {R : sm_S} (h : jR_calculate_21 D M = some R) : sm_WJ smT smCl smSa shM f82 1 21 [g0, g1, g2, g3, g4] [] D M R := by
  have e : jR_calculate_21 D M = (sm_run shM smSa cal82 c82 true (fun a D M => some (a, D, M)) sm_noleaf 37 (c82.drop 12) [g0, g1, g2, g3, g4] [] D M : Option (sm_S)) := rfl
  exact sm_blk (ρ := sm_S) (gd := (fun v => v = R)) (kx := 82) (i := 12) smVM rfl (by decide) ck82 (fun a D M v e1 e2 => by cases e1; exact e2.symm) (sm_noleaf_ok) rfl (e.symm.trans h) rfl
noncomputable def lf82_0 (D : sm_D) : Nat → List Value → List Value → sm_D → sm_M → Option (sm_S) := fun pc ls st D' M =>
  if pc = 21 then (match ls, st with
    | [gl0, gl1, gl2, gl3, gl4], [] => (jR_calculate_21 D' M)
    | _, _ => none)
  else none
theorem ll82_0 (D : sm_D) {R : sm_S} : ∀ (pc : Nat) (ls st : List Value) (D' : sm_D) (M : sm_M) (v : sm_S), (lf82_0 D) pc ls st D' M = some v → (fun v => v = R) v → sm_WJ smT smCl smSa shM f82 1 pc ls st D' M R := by
  intro pc ls st D' M v h hv
  unfold lf82_0 at h
  by_cases hp0 : pc = 21
  · subst hp0
    rw [if_pos (show (21 : Nat) = 21 from rfl)] at h
    split at h
    · skip
      have hv : v = R := hv
      subst hv
      exact w82_21  h
    · cases h
  · rw [if_neg hp0] at h
    cases h
set_option maxRecDepth 20000 in
set_option maxHeartbeats 4000000 in
theorem we82 {l1 l2 l3 l4 : Int32} {D : sm_D} {M : sm_M} {R : sm_S} (h : jR_calculate l1 l2 l3 l4 D M = some R) : sm_WJ smT smCl smSa shM f82 1 0 [.ref 1, .int l1, .int l2, .int l3, .int l4] [] D M R := by
  have e : jR_calculate l1 l2 l3 l4 D M = (sm_run shM smSa cal82 c82 true (fun a D M => some (a, D, M)) (lf82_0 D) 37 (c82.drop 0) [.ref 1, .int l1, .int l2, .int l3, .int l4] [] D M : Option (sm_S)) := rfl
  exact sm_blk (ρ := sm_S) (gd := (fun v => v = R)) (kx := 82) (i := 0) smVM rfl (by decide) ck82 (fun a D M v e1 e2 => by cases e1; exact e2.symm) (ll82_0 D) rfl (e.symm.trans h) rfl
theorem m82 {l1 l2 l3 l4 : Int32} {D : sm_D} {M : sm_M} {R : sm_S} (h : jR_calculate l1 l2 l3 l4 D M = some R) : sm_MJ smT smCl smSa shM f82 1 [.ref 1, .int l1, .int l2, .int l3, .int l4] D M R :=
  sm_met (by decide) (Nat.le_of_ble_eq_true rfl) (List.all_eq_true.mp rfl) (we82  h)

-- jR_newPair
noncomputable def cal83  : sm_Cal := fun x as D M =>
  if x = 80 then (match as with
    | [.ref 1, .int a1, .int a2, .int a3] => (jR_put a1 a2 a3 D M)
    | _ => none)
  else none
theorem ck83  : sm_CalOk smT smCl smP smSa shM 1 cal83 := by
  intro x g as D M R hx h
  unfold cal83 at h
  by_cases hx' : x = 80
  · subst hx'
    rw [if_pos (show (80 : Nat) = 80 from rfl)] at h
    cases (show smP[80]? = some f80 from rfl).symm.trans hx
    split at h
    · skip
      exact Or.inl ⟨0, by omega, m80   h⟩
    · cases h
  · rw [if_neg hx'] at h
    cases h
set_option maxRecDepth 20000 in
set_option maxHeartbeats 4000000 in
theorem w83_18 {g0 g1 g2 g3 : Value} {D : sm_D} {M : sm_M} {R : sm_S} (h : jR_newPair_18 D M = some R) : sm_WJ smT smCl smSa shM f83 1 18 [g0, g1, g2, g3] [] D M R := by
  have e : jR_newPair_18 D M = (sm_run shM smSa cal83 c83 true (fun a D M => some (a, D, M)) sm_noleaf 78 (c83.drop 10) [g0, g1, g2, g3] [] D M : Option (sm_S)) := rfl
  exact sm_blk (ρ := sm_S) (gd := (fun v => v = R)) (kx := 83) (i := 10) smVM rfl (by decide) ck83 (fun a D M v e1 e2 => by cases e1; exact e2.symm) (sm_noleaf_ok) rfl (e.symm.trans h) rfl
noncomputable def lf83_0 (D : sm_D) : Nat → List Value → List Value → sm_D → sm_M → Option (sm_S) := fun pc ls st D' M =>
  if pc = 18 then (match ls, st with
    | [gl0, gl1, gl2, gl3], [] => (jR_newPair_18 D' M)
    | _, _ => none)
  else none
theorem ll83_0 (D : sm_D) {R : sm_S} : ∀ (pc : Nat) (ls st : List Value) (D' : sm_D) (M : sm_M) (v : sm_S), (lf83_0 D) pc ls st D' M = some v → (fun v => v = R) v → sm_WJ smT smCl smSa shM f83 1 pc ls st D' M R := by
  intro pc ls st D' M v h hv
  unfold lf83_0 at h
  by_cases hp0 : pc = 18
  · subst hp0
    rw [if_pos (show (18 : Nat) = 18 from rfl)] at h
    split at h
    · skip
      have hv : v = R := hv
      subst hv
      exact w83_18  h
    · cases h
  · rw [if_neg hp0] at h
    cases h
set_option maxRecDepth 20000 in
set_option maxHeartbeats 4000000 in
theorem we83 {l1 l2 l3 : Int32} {D : sm_D} {M : sm_M} {R : sm_S} (h : jR_newPair l1 l2 l3 D M = some R) : sm_WJ smT smCl smSa shM f83 1 0 [.ref 1, .int l1, .int l2, .int l3] [] D M R := by
  have e : jR_newPair l1 l2 l3 D M = (sm_run shM smSa cal83 c83 true (fun a D M => some (a, D, M)) (lf83_0 D) 78 (c83.drop 0) [.ref 1, .int l1, .int l2, .int l3] [] D M : Option (sm_S)) := rfl
  exact sm_blk (ρ := sm_S) (gd := (fun v => v = R)) (kx := 83) (i := 0) smVM rfl (by decide) ck83 (fun a D M v e1 e2 => by cases e1; exact e2.symm) (ll83_0 D) rfl (e.symm.trans h) rfl
theorem m83 {l1 l2 l3 : Int32} {D : sm_D} {M : sm_M} {R : sm_S} (h : jR_newPair l1 l2 l3 D M = some R) : sm_MJ smT smCl smSa shM f83 1 [.ref 1, .int l1, .int l2, .int l3] D M R :=
  sm_met (by decide) (Nat.le_of_ble_eq_true rfl) (List.all_eq_true.mp rfl) (we83  h)

-- jR_open
noncomputable def cal84  : sm_Cal := fun x as D M =>
  if x = 80 then (match as with
    | [.ref 1, .int a1, .int a2, .int a3] => (jR_put a1 a2 a3 D M)
    | _ => none)
  else none
theorem ck84  : sm_CalOk smT smCl smP smSa shM 1 cal84 := by
  intro x g as D M R hx h
  unfold cal84 at h
  by_cases hx' : x = 80
  · subst hx'
    rw [if_pos (show (80 : Nat) = 80 from rfl)] at h
    cases (show smP[80]? = some f80 from rfl).symm.trans hx
    split at h
    · skip
      exact Or.inl ⟨0, by omega, m80   h⟩
    · cases h
  · rw [if_neg hx'] at h
    cases h
set_option maxRecDepth 20000 in
set_option maxHeartbeats 4000000 in
theorem w84_29 {g0 g1 g2 g3 g4 : Value} {D : sm_D} {M : sm_M} {R : sm_S} (h : jR_open_29 D M = some R) : sm_WJ smT smCl smSa shM f84 1 29 [g0, g1, g2, g3, g4] [] D M R := by
  have e : jR_open_29 D M = (sm_run shM smSa cal84 c84 true (fun a D M => some (a, D, M)) sm_noleaf 45 (c84.drop 17) [g0, g1, g2, g3, g4] [] D M : Option (sm_S)) := rfl
  exact sm_blk (ρ := sm_S) (gd := (fun v => v = R)) (kx := 84) (i := 17) smVM rfl (by decide) ck84 (fun a D M v e1 e2 => by cases e1; exact e2.symm) (sm_noleaf_ok) rfl (e.symm.trans h) rfl
noncomputable def lf84_0 (D : sm_D) : Nat → List Value → List Value → sm_D → sm_M → Option (sm_S) := fun pc ls st D' M =>
  if pc = 29 then (match ls, st with
    | [gl0, gl1, gl2, gl3, gl4], [] => (jR_open_29 D' M)
    | _, _ => none)
  else none
theorem ll84_0 (D : sm_D) {R : sm_S} : ∀ (pc : Nat) (ls st : List Value) (D' : sm_D) (M : sm_M) (v : sm_S), (lf84_0 D) pc ls st D' M = some v → (fun v => v = R) v → sm_WJ smT smCl smSa shM f84 1 pc ls st D' M R := by
  intro pc ls st D' M v h hv
  unfold lf84_0 at h
  by_cases hp0 : pc = 29
  · subst hp0
    rw [if_pos (show (29 : Nat) = 29 from rfl)] at h
    split at h
    · skip
      have hv : v = R := hv
      subst hv
      exact w84_29  h
    · cases h
  · rw [if_neg hp0] at h
    cases h
set_option maxRecDepth 20000 in
set_option maxHeartbeats 4000000 in
theorem we84 {l1 l2 l3 : Int32} {D : sm_D} {M : sm_M} {R : sm_S} (h : jR_open l1 l2 l3 D M = some R) : sm_WJ smT smCl smSa shM f84 1 0 [.ref 1, .int l1, .int l2, .int l3, .retAddr 0] [] D M R := by
  have e : jR_open l1 l2 l3 D M = (sm_run shM smSa cal84 c84 true (fun a D M => some (a, D, M)) (lf84_0 D) 45 (c84.drop 0) [.ref 1, .int l1, .int l2, .int l3, .retAddr 0] [] D M : Option (sm_S)) := rfl
  exact sm_blk (ρ := sm_S) (gd := (fun v => v = R)) (kx := 84) (i := 0) smVM rfl (by decide) ck84 (fun a D M v e1 e2 => by cases e1; exact e2.symm) (ll84_0 D) rfl (e.symm.trans h) rfl
theorem m84 {l1 l2 l3 : Int32} {D : sm_D} {M : sm_M} {R : sm_S} (h : jR_open l1 l2 l3 D M = some R) : sm_MJ smT smCl smSa shM f84 1 [.ref 1, .int l1, .int l2, .int l3] D M R :=
  sm_met (by decide) (Nat.le_of_ble_eq_true rfl) (List.all_eq_true.mp rfl) (we84  h)

-- jR_doIt
noncomputable def cal85  : sm_Cal := fun x as D M =>
  if x = 80 then (match as with
    | [.ref 1, .int a1, .int a2, .int a3] => (jR_put a1 a2 a3 D M)
    | _ => none)
  else if x = 82 then (match as with
    | [.ref 1, .int a1, .int a2, .int a3, .int a4] => (jR_calculate a1 a2 a3 a4 D M)
    | _ => none)
  else if x = 83 then (match as with
    | [.ref 1, .int a1, .int a2, .int a3] => (jR_newPair a1 a2 a3 D M)
    | _ => none)
  else if x = 84 then (match as with
    | [.ref 1, .int a1, .int a2, .int a3] => (jR_open a1 a2 a3 D M)
    | _ => none)
  else if x = 81 then (match as with
    | [.ref 1, .int a1] => (jR_go a1 D M)
    | _ => none)
  else none
theorem ck85  : sm_CalOk smT smCl smP smSa shM 2 cal85 := by
  intro x g as D M R hx h
  unfold cal85 at h
  by_cases hx' : x = 80
  · subst hx'
    rw [if_pos (show (80 : Nat) = 80 from rfl)] at h
    cases (show smP[80]? = some f80 from rfl).symm.trans hx
    split at h
    · skip
      exact Or.inl ⟨0, by omega, m80   h⟩
    · cases h
  · rw [if_neg hx'] at h
    by_cases hx' : x = 82
    · subst hx'
      rw [if_pos (show (82 : Nat) = 82 from rfl)] at h
      cases (show smP[82]? = some f82 from rfl).symm.trans hx
      split at h
      · skip
        exact Or.inl ⟨1, by omega, m82   h⟩
      · cases h
    · rw [if_neg hx'] at h
      by_cases hx' : x = 83
      · subst hx'
        rw [if_pos (show (83 : Nat) = 83 from rfl)] at h
        cases (show smP[83]? = some f83 from rfl).symm.trans hx
        split at h
        · skip
          exact Or.inl ⟨1, by omega, m83   h⟩
        · cases h
      · rw [if_neg hx'] at h
        by_cases hx' : x = 84
        · subst hx'
          rw [if_pos (show (84 : Nat) = 84 from rfl)] at h
          cases (show smP[84]? = some f84 from rfl).symm.trans hx
          split at h
          · skip
            exact Or.inl ⟨1, by omega, m84   h⟩
          · cases h
        · rw [if_neg hx'] at h
          by_cases hx' : x = 81
          · subst hx'
            rw [if_pos (show (81 : Nat) = 81 from rfl)] at h
            cases (show smP[81]? = some f81 from rfl).symm.trans hx
            split at h
            · skip
              exact Or.inl ⟨0, by omega, m81   h⟩
            · cases h
          · rw [if_neg hx'] at h
            cases h
set_option maxRecDepth 20000 in
set_option maxHeartbeats 4000000 in
theorem w85_105 {l1 l2 l3 l4 : Int32} {g5 : Value} {D : sm_D} {M : sm_M} {R : sm_S} (h : jR_doIt_105 l1 l2 l3 l4 D M = some R) : sm_WJ smT smCl smSa shM f85 2 105 [.ref 1, .int l1, .int l2, .int l3, .int l4, g5] [] D M R := by
  have e : jR_doIt_105 l1 l2 l3 l4 D M = (sm_run shM smSa cal85 c85 true (fun a D M => some (a, D, M)) sm_noleaf 169 (c85.drop 32) [.ref 1, .int l1, .int l2, .int l3, .int l4, g5] [] D M : Option (sm_S)) := rfl
  exact sm_blk (ρ := sm_S) (gd := (fun v => v = R)) (kx := 85) (i := 32) smVM rfl (by decide) ck85 (fun a D M v e1 e2 => by cases e1; exact e2.symm) (sm_noleaf_ok) rfl (e.symm.trans h) rfl
set_option maxRecDepth 20000 in
set_option maxHeartbeats 4000000 in
theorem w85_195 {s1 s2 s3 : Int32} {g0 g1 g2 g3 g4 g5 : Value} {D : sm_D} {M : sm_M} {R : sm_S} (h : jR_doIt_195 s1 s2 s3 D M = some R) : sm_WJ smT smCl smSa shM f85 2 195 [g0, g1, g2, g3, g4, g5] [.int s3, .int s2, .int s1, .ref 1] D M R := by
  have e : jR_doIt_195 s1 s2 s3 D M = (sm_run shM smSa cal85 c85 true (fun a D M => some (a, D, M)) sm_noleaf 169 (c85.drop 85) [g0, g1, g2, g3, g4, g5] [.int s3, .int s2, .int s1, .ref 1] D M : Option (sm_S)) := rfl
  exact sm_blk (ρ := sm_S) (gd := (fun v => v = R)) (kx := 85) (i := 85) smVM rfl (by decide) ck85 (fun a D M v e1 e2 => by cases e1; exact e2.symm) (sm_noleaf_ok) rfl (e.symm.trans h) rfl
noncomputable def lf85_173 (D : sm_D) : Nat → List Value → List Value → sm_D → sm_M → Option (sm_S) := fun pc ls st D' M =>
  if pc = 195 then (match ls, st with
    | [gl0, gl1, gl2, gl3, gl4, gl5], [.int bs3, .int bs2, .int bs1, .ref 1] => (jR_doIt_195 bs1 bs2 bs3 D' M)
    | _, _ => none)
  else none
theorem ll85_173 (D : sm_D) {R : sm_S} : ∀ (pc : Nat) (ls st : List Value) (D' : sm_D) (M : sm_M) (v : sm_S), (lf85_173 D) pc ls st D' M = some v → (fun v => v = R) v → sm_WJ smT smCl smSa shM f85 2 pc ls st D' M R := by
  intro pc ls st D' M v h hv
  unfold lf85_173 at h
  by_cases hp0 : pc = 195
  · subst hp0
    rw [if_pos (show (195 : Nat) = 195 from rfl)] at h
    split at h
    · skip
      have hv : v = R := hv
      subst hv
      exact w85_195  h
    · cases h
  · rw [if_neg hp0] at h
    cases h
set_option maxRecDepth 20000 in
set_option maxHeartbeats 4000000 in
theorem w85_173 {l4 l5 s1 s2 : Int32} {g1 g2 g3 : Value} {D : sm_D} {M : sm_M} {R : sm_S} (h : jR_doIt_173 l4 l5 s1 s2 D M = some R) : sm_WJ smT smCl smSa shM f85 2 173 [.ref 1, g1, g2, g3, .int l4, .int l5] [.int s2, .int s1, .ref 1] D M R := by
  have e : jR_doIt_173 l4 l5 s1 s2 D M = (sm_run shM smSa cal85 c85 true (fun a D M => some (a, D, M)) (lf85_173 D) 169 (c85.drop 74) [.ref 1, g1, g2, g3, .int l4, .int l5] [.int s2, .int s1, .ref 1] D M : Option (sm_S)) := rfl
  exact sm_blk (ρ := sm_S) (gd := (fun v => v = R)) (kx := 85) (i := 74) smVM rfl (by decide) ck85 (fun a D M v e1 e2 => by cases e1; exact e2.symm) (ll85_173 D) rfl (e.symm.trans h) rfl
set_option maxRecDepth 20000 in
set_option maxHeartbeats 4000000 in
theorem w85_282 {s0 : Int32} {g0 g1 g2 g3 g4 g5 : Value} {D : sm_D} {M : sm_M} {R : sm_S} (h : jR_doIt_282 s0 D M = some R) : sm_WJ smT smCl smSa shM f85 2 282 [g0, g1, g2, g3, g4, g5] [.int s0] D M R := by
  have e : jR_doIt_282 s0 D M = (sm_run shM smSa cal85 c85 true (fun a D M => some (a, D, M)) sm_noleaf 169 (c85.drop 141) [g0, g1, g2, g3, g4, g5] [.int s0] D M : Option (sm_S)) := rfl
  exact sm_blk (ρ := sm_S) (gd := (fun v => v = R)) (kx := 85) (i := 141) smVM rfl (by decide) ck85 (fun a D M v e1 e2 => by cases e1; exact e2.symm) (sm_noleaf_ok) rfl (e.symm.trans h) rfl
noncomputable def lf85_277 (D : sm_D) : Nat → List Value → List Value → sm_D → sm_M → Option (sm_S) := fun pc ls st D' M =>
  if pc = 282 then (match ls, st with
    | [gl0, gl1, gl2, gl3, gl4, gl5], [.int bs0] => (jR_doIt_282 bs0 D' M)
    | _, _ => none)
  else none
theorem ll85_277 (D : sm_D) {R : sm_S} : ∀ (pc : Nat) (ls st : List Value) (D' : sm_D) (M : sm_M) (v : sm_S), (lf85_277 D) pc ls st D' M = some v → (fun v => v = R) v → sm_WJ smT smCl smSa shM f85 2 pc ls st D' M R := by
  intro pc ls st D' M v h hv
  unfold lf85_277 at h
  by_cases hp0 : pc = 282
  · subst hp0
    rw [if_pos (show (282 : Nat) = 282 from rfl)] at h
    split at h
    · skip
      have hv : v = R := hv
      subst hv
      exact w85_282  h
    · cases h
  · rw [if_neg hp0] at h
    cases h
set_option maxRecDepth 20000 in
set_option maxHeartbeats 4000000 in
theorem w85_277 {g0 g1 g2 g3 g4 g5 : Value} {D : sm_D} {M : sm_M} {R : sm_S} (h : jR_doIt_277 D M = some R) : sm_WJ smT smCl smSa shM f85 2 277 [g0, g1, g2, g3, g4, g5] [] D M R := by
  have e : jR_doIt_277 D M = (sm_run shM smSa cal85 c85 true (fun a D M => some (a, D, M)) (lf85_277 D) 169 (c85.drop 138) [g0, g1, g2, g3, g4, g5] [] D M : Option (sm_S)) := rfl
  exact sm_blk (ρ := sm_S) (gd := (fun v => v = R)) (kx := 85) (i := 138) smVM rfl (by decide) ck85 (fun a D M v e1 e2 => by cases e1; exact e2.symm) (ll85_277 D) rfl (e.symm.trans h) rfl
noncomputable def lf85_281 (D : sm_D) : Nat → List Value → List Value → sm_D → sm_M → Option (sm_S) := fun pc ls st D' M =>
  if pc = 282 then (match ls, st with
    | [gl0, gl1, gl2, gl3, gl4, gl5], [.int bs0] => (jR_doIt_282 bs0 D' M)
    | _, _ => none)
  else none
theorem ll85_281 (D : sm_D) {R : sm_S} : ∀ (pc : Nat) (ls st : List Value) (D' : sm_D) (M : sm_M) (v : sm_S), (lf85_281 D) pc ls st D' M = some v → (fun v => v = R) v → sm_WJ smT smCl smSa shM f85 2 pc ls st D' M R := by
  intro pc ls st D' M v h hv
  unfold lf85_281 at h
  by_cases hp0 : pc = 282
  · subst hp0
    rw [if_pos (show (282 : Nat) = 282 from rfl)] at h
    split at h
    · skip
      have hv : v = R := hv
      subst hv
      exact w85_282  h
    · cases h
  · rw [if_neg hp0] at h
    cases h
set_option maxRecDepth 20000 in
set_option maxHeartbeats 4000000 in
theorem w85_281 {g0 g1 g2 g3 g4 g5 : Value} {D : sm_D} {M : sm_M} {R : sm_S} (h : jR_doIt_281 D M = some R) : sm_WJ smT smCl smSa shM f85 2 281 [g0, g1, g2, g3, g4, g5] [] D M R := by
  have e : jR_doIt_281 D M = (sm_run shM smSa cal85 c85 true (fun a D M => some (a, D, M)) (lf85_281 D) 169 (c85.drop 140) [g0, g1, g2, g3, g4, g5] [] D M : Option (sm_S)) := rfl
  exact sm_blk (ρ := sm_S) (gd := (fun v => v = R)) (kx := 85) (i := 140) smVM rfl (by decide) ck85 (fun a D M v e1 e2 => by cases e1; exact e2.symm) (ll85_281 D) rfl (e.symm.trans h) rfl
set_option maxRecDepth 20000 in
set_option maxHeartbeats 4000000 in
theorem w85_311 {s0 : Int32} {g0 g1 g2 g3 g4 g5 : Value} {D : sm_D} {M : sm_M} {R : sm_S} (h : jR_doIt_311 s0 D M = some R) : sm_WJ smT smCl smSa shM f85 2 311 [g0, g1, g2, g3, g4, g5] [.int s0] D M R := by
  have e : jR_doIt_311 s0 D M = (sm_run shM smSa cal85 c85 true (fun a D M => some (a, D, M)) sm_noleaf 169 (c85.drop 158) [g0, g1, g2, g3, g4, g5] [.int s0] D M : Option (sm_S)) := rfl
  exact sm_blk (ρ := sm_S) (gd := (fun v => v = R)) (kx := 85) (i := 158) smVM rfl (by decide) ck85 (fun a D M v e1 e2 => by cases e1; exact e2.symm) (sm_noleaf_ok) rfl (e.symm.trans h) rfl
noncomputable def lf85_310 (D : sm_D) : Nat → List Value → List Value → sm_D → sm_M → Option (sm_S) := fun pc ls st D' M =>
  if pc = 311 then (match ls, st with
    | [gl0, gl1, gl2, gl3, gl4, gl5], [.int bs0] => (jR_doIt_311 bs0 D' M)
    | _, _ => none)
  else none
theorem ll85_310 (D : sm_D) {R : sm_S} : ∀ (pc : Nat) (ls st : List Value) (D' : sm_D) (M : sm_M) (v : sm_S), (lf85_310 D) pc ls st D' M = some v → (fun v => v = R) v → sm_WJ smT smCl smSa shM f85 2 pc ls st D' M R := by
  intro pc ls st D' M v h hv
  unfold lf85_310 at h
  by_cases hp0 : pc = 311
  · subst hp0
    rw [if_pos (show (311 : Nat) = 311 from rfl)] at h
    split at h
    · skip
      have hv : v = R := hv
      subst hv
      exact w85_311  h
    · cases h
  · rw [if_neg hp0] at h
    cases h
set_option maxRecDepth 20000 in
set_option maxHeartbeats 4000000 in
theorem w85_310 {g0 g1 g2 g3 g4 g5 : Value} {D : sm_D} {M : sm_M} {R : sm_S} (h : jR_doIt_310 D M = some R) : sm_WJ smT smCl smSa shM f85 2 310 [g0, g1, g2, g3, g4, g5] [] D M R := by
  have e : jR_doIt_310 D M = (sm_run shM smSa cal85 c85 true (fun a D M => some (a, D, M)) (lf85_310 D) 169 (c85.drop 157) [g0, g1, g2, g3, g4, g5] [] D M : Option (sm_S)) := rfl
  exact sm_blk (ρ := sm_S) (gd := (fun v => v = R)) (kx := 85) (i := 157) smVM rfl (by decide) ck85 (fun a D M v e1 e2 => by cases e1; exact e2.symm) (ll85_310 D) rfl (e.symm.trans h) rfl
noncomputable def lf85_0 (D : sm_D) : Nat → List Value → List Value → sm_D → sm_M → Option (sm_S) := fun pc ls st D' M =>
  if pc = 105 then (match ls, st with
    | [.ref 1, .int bl1, .int bl2, .int bl3, .int bl4, gl5], [] => (jR_doIt_105 bl1 bl2 bl3 bl4 D' M)
    | _, _ => none)
  else if pc = 173 then (match ls, st with
    | [.ref 1, gl1, gl2, gl3, .int bl4, .int bl5], [.int bs2, .int bs1, .ref 1] => (jR_doIt_173 bl4 bl5 bs1 bs2 D' M)
    | _, _ => none)
  else if pc = 277 then (match ls, st with
    | [gl0, gl1, gl2, gl3, gl4, gl5], [] => (jR_doIt_277 D' M)
    | _, _ => none)
  else if pc = 281 then (match ls, st with
    | [gl0, gl1, gl2, gl3, gl4, gl5], [] => (jR_doIt_281 D' M)
    | _, _ => none)
  else if pc = 310 then (match ls, st with
    | [gl0, gl1, gl2, gl3, gl4, gl5], [] => (jR_doIt_310 D' M)
    | _, _ => none)
  else if pc = 311 then (match ls, st with
    | [gl0, gl1, gl2, gl3, gl4, gl5], [.int bs0] => (jR_doIt_311 bs0 D' M)
    | _, _ => none)
  else none
theorem ll85_0 (D : sm_D) {R : sm_S} : ∀ (pc : Nat) (ls st : List Value) (D' : sm_D) (M : sm_M) (v : sm_S), (lf85_0 D) pc ls st D' M = some v → (fun v => v = R) v → sm_WJ smT smCl smSa shM f85 2 pc ls st D' M R := by
  intro pc ls st D' M v h hv
  unfold lf85_0 at h
  by_cases hp0 : pc = 105
  · subst hp0
    rw [if_pos (show (105 : Nat) = 105 from rfl)] at h
    split at h
    · skip
      have hv : v = R := hv
      subst hv
      exact w85_105  h
    · cases h
  · rw [if_neg hp0] at h
    by_cases hp0 : pc = 173
    · subst hp0
      rw [if_pos (show (173 : Nat) = 173 from rfl)] at h
      split at h
      · skip
        have hv : v = R := hv
        subst hv
        exact w85_173  h
      · cases h
    · rw [if_neg hp0] at h
      by_cases hp0 : pc = 277
      · subst hp0
        rw [if_pos (show (277 : Nat) = 277 from rfl)] at h
        split at h
        · skip
          have hv : v = R := hv
          subst hv
          exact w85_277  h
        · cases h
      · rw [if_neg hp0] at h
        by_cases hp0 : pc = 281
        · subst hp0
          rw [if_pos (show (281 : Nat) = 281 from rfl)] at h
          split at h
          · skip
            have hv : v = R := hv
            subst hv
            exact w85_281  h
          · cases h
        · rw [if_neg hp0] at h
          by_cases hp0 : pc = 310
          · subst hp0
            rw [if_pos (show (310 : Nat) = 310 from rfl)] at h
            split at h
            · skip
              have hv : v = R := hv
              subst hv
              exact w85_310  h
            · cases h
          · rw [if_neg hp0] at h
            by_cases hp0 : pc = 311
            · subst hp0
              rw [if_pos (show (311 : Nat) = 311 from rfl)] at h
              split at h
              · skip
                have hv : v = R := hv
                subst hv
                exact w85_311  h
              · cases h
            · rw [if_neg hp0] at h
              cases h
set_option maxRecDepth 20000 in
set_option maxHeartbeats 4000000 in
theorem we85 {l1 : Int32} {D : sm_D} {M : sm_M} {R : sm_S} (h : jR_doIt l1 D M = some R) : sm_WJ smT smCl smSa shM f85 2 0 [.ref 1, .int l1, .retAddr 0, .retAddr 0, .retAddr 0, .retAddr 0] [] D M R := by
  have e : jR_doIt l1 D M = (sm_run shM smSa cal85 c85 true (fun a D M => some (a, D, M)) (lf85_0 D) 169 (c85.drop 0) [.ref 1, .int l1, .retAddr 0, .retAddr 0, .retAddr 0, .retAddr 0] [] D M : Option (sm_S)) := rfl
  exact sm_blk (ρ := sm_S) (gd := (fun v => v = R)) (kx := 85) (i := 0) smVM rfl (by decide) ck85 (fun a D M v e1 e2 => by cases e1; exact e2.symm) (ll85_0 D) rfl (e.symm.trans h) rfl
theorem m85 {l1 : Int32} {D : sm_D} {M : sm_M} {R : sm_S} (h : jR_doIt l1 D M = some R) : sm_MJ smT smCl smSa shM f85 2 [.ref 1, .int l1] D M R :=
  sm_met (by decide) (Nat.le_of_ble_eq_true rfl) (List.all_eq_true.mp rfl) (we85  h)

-- jR_run
noncomputable def cal86  : sm_Cal := fun x as D M =>
  if x = 81 then (match as with
    | [.ref 1, .int a1] => (jR_go a1 D M)
    | _ => none)
  else if x = 85 then (match as with
    | [.ref 1, .int a1] => (jR_doIt a1 D M)
    | _ => none)
  else none
theorem ck86  : sm_CalOk smT smCl smP smSa shM 3 cal86 := by
  intro x g as D M R hx h
  unfold cal86 at h
  by_cases hx' : x = 81
  · subst hx'
    rw [if_pos (show (81 : Nat) = 81 from rfl)] at h
    cases (show smP[81]? = some f81 from rfl).symm.trans hx
    split at h
    · skip
      exact Or.inl ⟨0, by omega, m81   h⟩
    · cases h
  · rw [if_neg hx'] at h
    by_cases hx' : x = 85
    · subst hx'
      rw [if_pos (show (85 : Nat) = 85 from rfl)] at h
      cases (show smP[85]? = some f85 from rfl).symm.trans hx
      split at h
      · skip
        exact Or.inl ⟨2, by omega, m85   h⟩
      · cases h
    · rw [if_neg hx'] at h
      cases h
set_option maxRecDepth 20000 in
set_option maxHeartbeats 4000000 in
theorem w86_16 {g0 g1 g2 g3 g4 : Value} {D : sm_D} {M : sm_M} {R : sm_S} (h : jR_run_16 D M = some R) : sm_WJ smT smCl smSa shM f86 3 16 [g0, g1, g2, g3, g4] [] D M R := by
  have e : jR_run_16 D M = (sm_run shM smSa cal86 c86 false (fun a D M => some (a, D, M)) sm_noleaf 79 (c86.drop 8) [g0, g1, g2, g3, g4] [] D M : Option (sm_S)) := rfl
  exact sm_blk (ρ := sm_S) (gd := (fun v => v = R)) (kx := 86) (i := 8) smVM rfl (by decide) ck86 (fun a D M v e1 e2 => by cases e1; exact e2.symm) (sm_noleaf_ok) rfl (e.symm.trans h) rfl
def lh86_20 (D : sm_D) (R : sm_S) (s : Int32 × Int32 × sm_M) : Prop := ∀ (g3 g4 : Value), sm_WJ smT smCl smSa shM f86 3 20 [.ref 1, .int (s.1), .int (s.2.1), g3, g4] [] D (s.2.2) R
def gd86_20 (D : sm_D) (R : sm_S) (v : (Int32 × Int32 × sm_M) ⊕ sm_S) : Prop := match v with
  | .inl s => lh86_20 D R s
  | .inr r => r = R
noncomputable def lf86_132 (D : sm_D) : Nat → List Value → List Value → sm_D → sm_M → Option ((Int32 × Int32 × sm_M) ⊕ sm_S) := fun pc ls st D' M =>
  if pc = 20 then (match ls, st with
    | [.ref 1, .int bl1, .int bl2, gl3, gl4], [] => (sm_dq D' D (some (.inl (bl1, bl2, M))))
    | _, _ => none)
  else none
theorem ll86_132 (D : sm_D) {R : sm_S} : ∀ (pc : Nat) (ls st : List Value) (D' : sm_D) (M : sm_M) (v : (Int32 × Int32 × sm_M) ⊕ sm_S), (lf86_132 D) pc ls st D' M = some v → (gd86_20 D R) v → sm_WJ smT smCl smSa shM f86 3 pc ls st D' M R := by
  intro pc ls st D' M v h hv
  unfold lf86_132 at h
  by_cases hp0 : pc = 20
  · subst hp0
    rw [if_pos (show (20 : Nat) = 20 from rfl)] at h
    split at h
    · skip
      replace h := sm_dq_inv h
      obtain ⟨he, h⟩ := h
      subst he
      cases h
      exact hv _ _
    · cases h
  · rw [if_neg hp0] at h
    cases h
set_option maxRecDepth 20000 in
set_option maxHeartbeats 4000000 in
theorem w86_132 (D : sm_D) {l1 l2 s1 : Int32} {g3 g4 : Value} {M : sm_M} {R : sm_S} {v : (Int32 × Int32 × sm_M) ⊕ sm_S} (h : jR_run_132 l1 l2 s1 D M = some v) (hv : (gd86_20 D R) v) : sm_WJ smT smCl smSa shM f86 3 132 [.ref 1, .int l1, .int l2, g3, g4] [.int s1, .ref 1] D M R := by
  have e : jR_run_132 l1 l2 s1 D M = (sm_run shM smSa cal86 c86 false (fun a D M => some (.inr (a, D, M))) (lf86_132 D) 79 (c86.drop 70) [.ref 1, .int l1, .int l2, g3, g4] [.int s1, .ref 1] D M : Option ((Int32 × Int32 × sm_M) ⊕ sm_S)) := rfl
  exact sm_blk (ρ := (Int32 × Int32 × sm_M) ⊕ sm_S) (gd := (gd86_20 D R)) (kx := 86) (i := 70) smVM rfl (by decide) ck86 (fun a D M v e1 e2 => by cases e1; exact e2.symm) (ll86_132 D) rfl (e.symm.trans h) hv
noncomputable def lf86_124 (D : sm_D) : Nat → List Value → List Value → sm_D → sm_M → Option ((Int32 × Int32 × sm_M) ⊕ sm_S) := fun pc ls st D' M =>
  if pc = 132 then (match ls, st with
    | [.ref 1, .int bl1, .int bl2, gl3, gl4], [.int bs1, .ref 1] => (sm_dq D' D (jR_run_132 bl1 bl2 bs1 D' M))
    | _, _ => none)
  else none
theorem ll86_124 (D : sm_D) {R : sm_S} : ∀ (pc : Nat) (ls st : List Value) (D' : sm_D) (M : sm_M) (v : (Int32 × Int32 × sm_M) ⊕ sm_S), (lf86_124 D) pc ls st D' M = some v → (gd86_20 D R) v → sm_WJ smT smCl smSa shM f86 3 pc ls st D' M R := by
  intro pc ls st D' M v h hv
  unfold lf86_124 at h
  by_cases hp0 : pc = 132
  · subst hp0
    rw [if_pos (show (132 : Nat) = 132 from rfl)] at h
    split at h
    · skip
      replace h := sm_dq_inv h
      obtain ⟨he, h⟩ := h
      subst he
      exact w86_132 _ h hv
    · cases h
  · rw [if_neg hp0] at h
    cases h
set_option maxRecDepth 20000 in
set_option maxHeartbeats 4000000 in
theorem w86_124 (D : sm_D) {l1 l2 : Int32} {g3 g4 : Value} {M : sm_M} {R : sm_S} {v : (Int32 × Int32 × sm_M) ⊕ sm_S} (h : jR_run_124 l1 l2 D M = some v) (hv : (gd86_20 D R) v) : sm_WJ smT smCl smSa shM f86 3 124 [.ref 1, .int l1, .int l2, g3, g4] [.ref 1] D M R := by
  have e : jR_run_124 l1 l2 D M = (sm_run shM smSa cal86 c86 false (fun a D M => some (.inr (a, D, M))) (lf86_124 D) 79 (c86.drop 66) [.ref 1, .int l1, .int l2, g3, g4] [.ref 1] D M : Option ((Int32 × Int32 × sm_M) ⊕ sm_S)) := rfl
  exact sm_blk (ρ := (Int32 × Int32 × sm_M) ⊕ sm_S) (gd := (gd86_20 D R)) (kx := 86) (i := 66) smVM rfl (by decide) ck86 (fun a D M v e1 e2 => by cases e1; exact e2.symm) (ll86_124 D) rfl (e.symm.trans h) hv
noncomputable def lf86_107 (D : sm_D) : Nat → List Value → List Value → sm_D → sm_M → Option ((Int32 × Int32 × sm_M) ⊕ sm_S) := fun pc ls st D' M =>
  if pc = 124 then (match ls, st with
    | [.ref 1, .int bl1, .int bl2, gl3, gl4], [.ref 1] => (sm_dq D' D (jR_run_124 bl1 bl2 D' M))
    | _, _ => none)
  else if pc = 132 then (match ls, st with
    | [.ref 1, .int bl1, .int bl2, gl3, gl4], [.int bs1, .ref 1] => (sm_dq D' D (jR_run_132 bl1 bl2 bs1 D' M))
    | _, _ => none)
  else none
theorem ll86_107 (D : sm_D) {R : sm_S} : ∀ (pc : Nat) (ls st : List Value) (D' : sm_D) (M : sm_M) (v : (Int32 × Int32 × sm_M) ⊕ sm_S), (lf86_107 D) pc ls st D' M = some v → (gd86_20 D R) v → sm_WJ smT smCl smSa shM f86 3 pc ls st D' M R := by
  intro pc ls st D' M v h hv
  unfold lf86_107 at h
  by_cases hp0 : pc = 124
  · subst hp0
    rw [if_pos (show (124 : Nat) = 124 from rfl)] at h
    split at h
    · skip
      replace h := sm_dq_inv h
      obtain ⟨he, h⟩ := h
      subst he
      exact w86_124 _ h hv
    · cases h
  · rw [if_neg hp0] at h
    by_cases hp0 : pc = 132
    · subst hp0
      rw [if_pos (show (132 : Nat) = 132 from rfl)] at h
      split at h
      · skip
        replace h := sm_dq_inv h
        obtain ⟨he, h⟩ := h
        subst he
        exact w86_132 _ h hv
      · cases h
    · rw [if_neg hp0] at h
      cases h
set_option maxRecDepth 20000 in
set_option maxHeartbeats 4000000 in
theorem w86_107 (D : sm_D) {l1 l2 l4 s1 : Int32} {g3 : Value} {M : sm_M} {R : sm_S} {v : (Int32 × Int32 × sm_M) ⊕ sm_S} (h : jR_run_107 l1 l2 l4 s1 D M = some v) (hv : (gd86_20 D R) v) : sm_WJ smT smCl smSa shM f86 3 107 [.ref 1, .int l1, .int l2, g3, .int l4] [.int s1, .ref 1] D M R := by
  have e : jR_run_107 l1 l2 l4 s1 D M = (sm_run shM smSa cal86 c86 false (fun a D M => some (.inr (a, D, M))) (lf86_107 D) 79 (c86.drop 58) [.ref 1, .int l1, .int l2, g3, .int l4] [.int s1, .ref 1] D M : Option ((Int32 × Int32 × sm_M) ⊕ sm_S)) := rfl
  exact sm_blk (ρ := (Int32 × Int32 × sm_M) ⊕ sm_S) (gd := (gd86_20 D R)) (kx := 86) (i := 58) smVM rfl (by decide) ck86 (fun a D M v e1 e2 => by cases e1; exact e2.symm) (ll86_107 D) rfl (e.symm.trans h) hv
noncomputable def lf86_91 (D : sm_D) : Nat → List Value → List Value → sm_D → sm_M → Option ((Int32 × Int32 × sm_M) ⊕ sm_S) := fun pc ls st D' M =>
  if pc = 107 then (match ls, st with
    | [.ref 1, .int bl1, .int bl2, gl3, .int bl4], [.int bs1, .ref 1] => (sm_dq D' D (jR_run_107 bl1 bl2 bl4 bs1 D' M))
    | _, _ => none)
  else none
theorem ll86_91 (D : sm_D) {R : sm_S} : ∀ (pc : Nat) (ls st : List Value) (D' : sm_D) (M : sm_M) (v : (Int32 × Int32 × sm_M) ⊕ sm_S), (lf86_91 D) pc ls st D' M = some v → (gd86_20 D R) v → sm_WJ smT smCl smSa shM f86 3 pc ls st D' M R := by
  intro pc ls st D' M v h hv
  unfold lf86_91 at h
  by_cases hp0 : pc = 107
  · subst hp0
    rw [if_pos (show (107 : Nat) = 107 from rfl)] at h
    split at h
    · skip
      replace h := sm_dq_inv h
      obtain ⟨he, h⟩ := h
      subst he
      exact w86_107 _ h hv
    · cases h
  · rw [if_neg hp0] at h
    cases h
set_option maxRecDepth 20000 in
set_option maxHeartbeats 4000000 in
theorem w86_91 (D : sm_D) {l1 l3 l4 s0 s1 : Int32} {g2 : Value} {M : sm_M} {R : sm_S} {v : (Int32 × Int32 × sm_M) ⊕ sm_S} (h : jR_run_91 l1 l3 l4 s0 s1 D M = some v) (hv : (gd86_20 D R) v) : sm_WJ smT smCl smSa shM f86 3 91 [.ref 1, .int l1, g2, .int l3, .int l4] [.int s1, .int s0] D M R := by
  have e : jR_run_91 l1 l3 l4 s0 s1 D M = (sm_run shM smSa cal86 c86 false (fun a D M => some (.inr (a, D, M))) (lf86_91 D) 79 (c86.drop 49) [.ref 1, .int l1, g2, .int l3, .int l4] [.int s1, .int s0] D M : Option ((Int32 × Int32 × sm_M) ⊕ sm_S)) := rfl
  exact sm_blk (ρ := (Int32 × Int32 × sm_M) ⊕ sm_S) (gd := (gd86_20 D R)) (kx := 86) (i := 49) smVM rfl (by decide) ck86 (fun a D M v e1 e2 => by cases e1; exact e2.symm) (ll86_91 D) rfl (e.symm.trans h) hv
noncomputable def lf86_78 (D : sm_D) : Nat → List Value → List Value → sm_D → sm_M → Option ((Int32 × Int32 × sm_M) ⊕ sm_S) := fun pc ls st D' M =>
  if pc = 91 then (match ls, st with
    | [.ref 1, .int bl1, gl2, .int bl3, .int bl4], [.int bs1, .int bs0] => (sm_dq D' D (jR_run_91 bl1 bl3 bl4 bs0 bs1 D' M))
    | _, _ => none)
  else none
theorem ll86_78 (D : sm_D) {R : sm_S} : ∀ (pc : Nat) (ls st : List Value) (D' : sm_D) (M : sm_M) (v : (Int32 × Int32 × sm_M) ⊕ sm_S), (lf86_78 D) pc ls st D' M = some v → (gd86_20 D R) v → sm_WJ smT smCl smSa shM f86 3 pc ls st D' M R := by
  intro pc ls st D' M v h hv
  unfold lf86_78 at h
  by_cases hp0 : pc = 91
  · subst hp0
    rw [if_pos (show (91 : Nat) = 91 from rfl)] at h
    split at h
    · skip
      replace h := sm_dq_inv h
      obtain ⟨he, h⟩ := h
      subst he
      exact w86_91 _ h hv
    · cases h
  · rw [if_neg hp0] at h
    cases h
set_option maxRecDepth 20000 in
set_option maxHeartbeats 4000000 in
theorem w86_78 (D : sm_D) {l1 l2 l3 s0 : Int32} {g4 : Value} {M : sm_M} {R : sm_S} {v : (Int32 × Int32 × sm_M) ⊕ sm_S} (h : jR_run_78 l1 l2 l3 s0 D M = some v) (hv : (gd86_20 D R) v) : sm_WJ smT smCl smSa shM f86 3 78 [.ref 1, .int l1, .int l2, .int l3, g4] [.int s0] D M R := by
  have e : jR_run_78 l1 l2 l3 s0 D M = (sm_run shM smSa cal86 c86 false (fun a D M => some (.inr (a, D, M))) (lf86_78 D) 79 (c86.drop 42) [.ref 1, .int l1, .int l2, .int l3, g4] [.int s0] D M : Option ((Int32 × Int32 × sm_M) ⊕ sm_S)) := rfl
  exact sm_blk (ρ := (Int32 × Int32 × sm_M) ⊕ sm_S) (gd := (gd86_20 D R)) (kx := 86) (i := 42) smVM rfl (by decide) ck86 (fun a D M v e1 e2 => by cases e1; exact e2.symm) (ll86_78 D) rfl (e.symm.trans h) hv
noncomputable def lf86_77 (D : sm_D) : Nat → List Value → List Value → sm_D → sm_M → Option ((Int32 × Int32 × sm_M) ⊕ sm_S) := fun pc ls st D' M =>
  if pc = 78 then (match ls, st with
    | [.ref 1, .int bl1, .int bl2, .int bl3, gl4], [.int bs0] => (sm_dq D' D (jR_run_78 bl1 bl2 bl3 bs0 D' M))
    | _, _ => none)
  else none
theorem ll86_77 (D : sm_D) {R : sm_S} : ∀ (pc : Nat) (ls st : List Value) (D' : sm_D) (M : sm_M) (v : (Int32 × Int32 × sm_M) ⊕ sm_S), (lf86_77 D) pc ls st D' M = some v → (gd86_20 D R) v → sm_WJ smT smCl smSa shM f86 3 pc ls st D' M R := by
  intro pc ls st D' M v h hv
  unfold lf86_77 at h
  by_cases hp0 : pc = 78
  · subst hp0
    rw [if_pos (show (78 : Nat) = 78 from rfl)] at h
    split at h
    · skip
      replace h := sm_dq_inv h
      obtain ⟨he, h⟩ := h
      subst he
      exact w86_78 _ h hv
    · cases h
  · rw [if_neg hp0] at h
    cases h
set_option maxRecDepth 20000 in
set_option maxHeartbeats 4000000 in
theorem w86_77 (D : sm_D) {l1 l2 l3 : Int32} {g4 : Value} {M : sm_M} {R : sm_S} {v : (Int32 × Int32 × sm_M) ⊕ sm_S} (h : jR_run_77 l1 l2 l3 D M = some v) (hv : (gd86_20 D R) v) : sm_WJ smT smCl smSa shM f86 3 77 [.ref 1, .int l1, .int l2, .int l3, g4] [] D M R := by
  have e : jR_run_77 l1 l2 l3 D M = (sm_run shM smSa cal86 c86 false (fun a D M => some (.inr (a, D, M))) (lf86_77 D) 79 (c86.drop 41) [.ref 1, .int l1, .int l2, .int l3, g4] [] D M : Option ((Int32 × Int32 × sm_M) ⊕ sm_S)) := rfl
  exact sm_blk (ρ := (Int32 × Int32 × sm_M) ⊕ sm_S) (gd := (gd86_20 D R)) (kx := 86) (i := 41) smVM rfl (by decide) ck86 (fun a D M v e1 e2 => by cases e1; exact e2.symm) (ll86_77 D) rfl (e.symm.trans h) hv
noncomputable def lf86_52 (D : sm_D) : Nat → List Value → List Value → sm_D → sm_M → Option ((Int32 × Int32 × sm_M) ⊕ sm_S) := fun pc ls st D' M =>
  if pc = 77 then (match ls, st with
    | [.ref 1, .int bl1, .int bl2, .int bl3, gl4], [] => (sm_dq D' D (jR_run_77 bl1 bl2 bl3 D' M))
    | _, _ => none)
  else if pc = 78 then (match ls, st with
    | [.ref 1, .int bl1, .int bl2, .int bl3, gl4], [.int bs0] => (sm_dq D' D (jR_run_78 bl1 bl2 bl3 bs0 D' M))
    | _, _ => none)
  else none
theorem ll86_52 (D : sm_D) {R : sm_S} : ∀ (pc : Nat) (ls st : List Value) (D' : sm_D) (M : sm_M) (v : (Int32 × Int32 × sm_M) ⊕ sm_S), (lf86_52 D) pc ls st D' M = some v → (gd86_20 D R) v → sm_WJ smT smCl smSa shM f86 3 pc ls st D' M R := by
  intro pc ls st D' M v h hv
  unfold lf86_52 at h
  by_cases hp0 : pc = 77
  · subst hp0
    rw [if_pos (show (77 : Nat) = 77 from rfl)] at h
    split at h
    · skip
      replace h := sm_dq_inv h
      obtain ⟨he, h⟩ := h
      subst he
      exact w86_77 _ h hv
    · cases h
  · rw [if_neg hp0] at h
    by_cases hp0 : pc = 78
    · subst hp0
      rw [if_pos (show (78 : Nat) = 78 from rfl)] at h
      split at h
      · skip
        replace h := sm_dq_inv h
        obtain ⟨he, h⟩ := h
        subst he
        exact w86_78 _ h hv
      · cases h
    · rw [if_neg hp0] at h
      cases h
set_option maxRecDepth 20000 in
set_option maxHeartbeats 4000000 in
theorem w86_52 (D : sm_D) {l1 l2 : Int32} {g3 g4 : Value} {M : sm_M} {R : sm_S} {v : (Int32 × Int32 × sm_M) ⊕ sm_S} (h : jR_run_52 l1 l2 D M = some v) (hv : (gd86_20 D R) v) : sm_WJ smT smCl smSa shM f86 3 52 [.ref 1, .int l1, .int l2, g3, g4] [] D M R := by
  have e : jR_run_52 l1 l2 D M = (sm_run shM smSa cal86 c86 false (fun a D M => some (.inr (a, D, M))) (lf86_52 D) 79 (c86.drop 28) [.ref 1, .int l1, .int l2, g3, g4] [] D M : Option ((Int32 × Int32 × sm_M) ⊕ sm_S)) := rfl
  exact sm_blk (ρ := (Int32 × Int32 × sm_M) ⊕ sm_S) (gd := (gd86_20 D R)) (kx := 86) (i := 28) smVM rfl (by decide) ck86 (fun a D M v e1 e2 => by cases e1; exact e2.symm) (ll86_52 D) rfl (e.symm.trans h) hv
set_option maxRecDepth 20000 in
set_option maxHeartbeats 4000000 in
theorem w86_138 {l2 : Int32} {g0 g1 g3 g4 : Value} {D : sm_D} {M : sm_M} {R : sm_S} (h : jR_run_138 l2 D M = some R) : sm_WJ smT smCl smSa shM f86 3 138 [g0, g1, .int l2, g3, g4] [] D M R := by
  have e : jR_run_138 l2 D M = (sm_run shM smSa cal86 c86 false (fun a D M => some (a, D, M)) sm_noleaf 79 (c86.drop 72) [g0, g1, .int l2, g3, g4] [] D M : Option (sm_S)) := rfl
  exact sm_blk (ρ := sm_S) (gd := (fun v => v = R)) (kx := 86) (i := 72) smVM rfl (by decide) ck86 (fun a D M v e1 e2 => by cases e1; exact e2.symm) (sm_noleaf_ok) rfl (e.symm.trans h) rfl
noncomputable def lf86_20 (D : sm_D) : Nat → List Value → List Value → sm_D → sm_M → Option ((Int32 × Int32 × sm_M) ⊕ sm_S) := fun pc ls st D' M =>
  if pc = 52 then (match ls, st with
    | [.ref 1, .int bl1, .int bl2, gl3, gl4], [] => (sm_dq D' D (jR_run_52 bl1 bl2 D' M))
    | _, _ => none)
  else if pc = 138 then (match ls, st with
    | [gl0, gl1, .int bl2, gl3, gl4], [] => (sm_inr (jR_run_138 bl2 D' M))
    | _, _ => none)
  else none
theorem ll86_20 (D : sm_D) {R : sm_S} : ∀ (pc : Nat) (ls st : List Value) (D' : sm_D) (M : sm_M) (v : (Int32 × Int32 × sm_M) ⊕ sm_S), (lf86_20 D) pc ls st D' M = some v → (gd86_20 D R) v → sm_WJ smT smCl smSa shM f86 3 pc ls st D' M R := by
  intro pc ls st D' M v h hv
  unfold lf86_20 at h
  by_cases hp0 : pc = 52
  · subst hp0
    rw [if_pos (show (52 : Nat) = 52 from rfl)] at h
    split at h
    · skip
      replace h := sm_dq_inv h
      obtain ⟨he, h⟩ := h
      subst he
      exact w86_52 _ h hv
    · cases h
  · rw [if_neg hp0] at h
    by_cases hp0 : pc = 138
    · subst hp0
      rw [if_pos (show (138 : Nat) = 138 from rfl)] at h
      split at h
      · skip
        replace h := sm_inr_inv h
        obtain ⟨r, h, he⟩ := h
        subst he
        have hv : r = R := hv
        subst hv
        exact w86_138  h
      · cases h
    · rw [if_neg hp0] at h
      cases h
set_option maxRecDepth 20000 in
set_option maxHeartbeats 4000000 in
theorem wc86_20 (D : sm_D) {l1 l2 : Int32} {g3 g4 : Value} {M : sm_M} {R : sm_S} {v : (Int32 × Int32 × sm_M) ⊕ sm_S} (h : jR_run_20_c l1 l2 D M = some v) (hv : (gd86_20 D R) v) : sm_WJ smT smCl smSa shM f86 3 20 [.ref 1, .int l1, .int l2, g3, g4] [] D M R := by
  have e : jR_run_20_c l1 l2 D M = (sm_run shM smSa cal86 c86 false (fun a D M => some (.inr (a, D, M))) (lf86_20 D) 79 (c86.drop 12) [.ref 1, .int l1, .int l2, g3, g4] [] D M : Option ((Int32 × Int32 × sm_M) ⊕ sm_S)) := rfl
  exact sm_blk (ρ := (Int32 × Int32 × sm_M) ⊕ sm_S) (gd := (gd86_20 D R)) (kx := 86) (i := 12) smVM rfl (by decide) ck86 (fun a D M v e1 e2 => by cases e1; exact e2.symm) (ll86_20 D) rfl (e.symm.trans h) hv
theorem w86_20 {l1 l2 : Int32} {g3 g4 : Value} {D : sm_D} {M : sm_M} {R : sm_S} (h : jR_run_20 l1 l2 D M = some R) : sm_WJ smT smCl smSa shM f86 3 20 [.ref 1, .int l1, .int l2, g3, g4] [] D M R := by
  have hh : lh86_20 D R (l1, l2, M) := by
    refine sm_lp_ind (b := jR_run_20_b D) (r := R) (lh86_20 D R) ?_ h
    intro s v hb h1 h2
    obtain ⟨z0, z1, M1⟩ := s
    have hv : gd86_20 D R v := by
      cases v with
      | inl s' => exact h1 s' rfl
      | inr r => exact h2 r rfl
    intro g3 g4
    exact wc86_20 D hb hv
  exact hh _ _
noncomputable def lf86_0 (D : sm_D) : Nat → List Value → List Value → sm_D → sm_M → Option (sm_S) := fun pc ls st D' M =>
  if pc = 16 then (match ls, st with
    | [gl0, gl1, gl2, gl3, gl4], [] => (jR_run_16 D' M)
    | _, _ => none)
  else if pc = 20 then (match ls, st with
    | [.ref 1, .int bl1, .int bl2, gl3, gl4], [] => (jR_run_20 bl1 bl2 D' M)
    | _, _ => none)
  else none
theorem ll86_0 (D : sm_D) {R : sm_S} : ∀ (pc : Nat) (ls st : List Value) (D' : sm_D) (M : sm_M) (v : sm_S), (lf86_0 D) pc ls st D' M = some v → (fun v => v = R) v → sm_WJ smT smCl smSa shM f86 3 pc ls st D' M R := by
  intro pc ls st D' M v h hv
  unfold lf86_0 at h
  by_cases hp0 : pc = 16
  · subst hp0
    rw [if_pos (show (16 : Nat) = 16 from rfl)] at h
    split at h
    · skip
      have hv : v = R := hv
      subst hv
      exact w86_16  h
    · cases h
  · rw [if_neg hp0] at h
    by_cases hp0 : pc = 20
    · subst hp0
      rw [if_pos (show (20 : Nat) = 20 from rfl)] at h
      split at h
      · skip
        have hv : v = R := hv
        subst hv
        exact w86_20  h
      · cases h
    · rw [if_neg hp0] at h
      cases h
set_option maxRecDepth 20000 in
set_option maxHeartbeats 4000000 in
theorem we86 {l1 : Int32} {D : sm_D} {M : sm_M} {R : sm_S} (h : jR_run l1 D M = some R) : sm_WJ smT smCl smSa shM f86 3 0 [.ref 1, .int l1, .retAddr 0, .retAddr 0, .retAddr 0] [] D M R := by
  have e : jR_run l1 D M = (sm_run shM smSa cal86 c86 false (fun a D M => some (a, D, M)) (lf86_0 D) 79 (c86.drop 0) [.ref 1, .int l1, .retAddr 0, .retAddr 0, .retAddr 0] [] D M : Option (sm_S)) := rfl
  exact sm_blk (ρ := sm_S) (gd := (fun v => v = R)) (kx := 86) (i := 0) smVM rfl (by decide) ck86 (fun a D M v e1 e2 => by cases e1; exact e2.symm) (ll86_0 D) rfl (e.symm.trans h) rfl
theorem m86 {l1 : Int32} {D : sm_D} {M : sm_M} {R : sm_S} (h : jR_run l1 D M = some R) : sm_MJ smT smCl smSa shM f86 3 [.ref 1, .int l1] D M R :=
  sm_met (by decide) (Nat.le_of_ble_eq_true rfl) (List.all_eq_true.mp rfl) (we86  h)

-- jR_state
set_option maxRecDepth 20000 in
set_option maxHeartbeats 4000000 in
theorem we87 {D : sm_D} {M : sm_M} {R : sm_S} (h : jR_state D M = some R) : sm_WJ smT smCl smSa shM f87 0 0 [.ref 1] [] D M R := by
  have e : jR_state D M = (sm_run shM smSa sm_nocal c87 false (fun a D M => some (a, D, M)) sm_noleaf 11 (c87.drop 0) [.ref 1] [] D M : Option (sm_S)) := rfl
  exact sm_blk (ρ := sm_S) (gd := (fun v => v = R)) (kx := 87) (i := 0) smVM rfl (by decide) (sm_nocal_ok smT smCl smP smSa shM 0) (fun a D M v e1 e2 => by cases e1; exact e2.symm) (sm_noleaf_ok) rfl (e.symm.trans h) rfl
theorem m87 {D : sm_D} {M : sm_M} {R : sm_S} (h : jR_state D M = some R) : sm_MJ smT smCl smSa shM f87 0 [.ref 1] D M R :=
  sm_met (by decide) (Nat.le_of_ble_eq_true rfl) (List.all_eq_true.mp rfl) (we87  h)

-- jR_register
noncomputable def cal88  : sm_Cal := fun x as D M =>
  if x = 64 then (match as with
    | [.int a0] => (jR_isRegister a0 D M)
    | _ => none)
  else none
theorem ck88  : sm_CalOk smT smCl smP smSa shM 1 cal88 := by
  intro x g as D M R hx h
  unfold cal88 at h
  by_cases hx' : x = 64
  · subst hx'
    rw [if_pos (show (64 : Nat) = 64 from rfl)] at h
    cases (show smP[64]? = some f64 from rfl).symm.trans hx
    split at h
    · skip
      exact Or.inl ⟨0, by omega, m64   h⟩
    · cases h
  · rw [if_neg hx'] at h
    cases h
set_option maxRecDepth 20000 in
set_option maxHeartbeats 4000000 in
theorem w88_21 {g0 g1 g2 : Value} {D : sm_D} {M : sm_M} {R : sm_S} (h : jR_register_21 D M = some R) : sm_WJ smT smCl smSa shM f88 1 21 [g0, g1, g2] [] D M R := by
  have e : jR_register_21 D M = (sm_run shM smSa cal88 c88 false (fun a D M => some (a, D, M)) sm_noleaf 30 (c88.drop 11) [g0, g1, g2] [] D M : Option (sm_S)) := rfl
  exact sm_blk (ρ := sm_S) (gd := (fun v => v = R)) (kx := 88) (i := 11) smVM rfl (by decide) ck88 (fun a D M v e1 e2 => by cases e1; exact e2.symm) (sm_noleaf_ok) rfl (e.symm.trans h) rfl
set_option maxRecDepth 20000 in
set_option maxHeartbeats 4000000 in
theorem w88_42 {s0 : Int32} {g0 g1 g2 : Value} {D : sm_D} {M : sm_M} {R : sm_S} (h : jR_register_42 s0 D M = some R) : sm_WJ smT smCl smSa shM f88 1 42 [g0, g1, g2] [.int s0] D M R := by
  have e : jR_register_42 s0 D M = (sm_run shM smSa cal88 c88 false (fun a D M => some (a, D, M)) sm_noleaf 30 (c88.drop 24) [g0, g1, g2] [.int s0] D M : Option (sm_S)) := rfl
  exact sm_blk (ρ := sm_S) (gd := (fun v => v = R)) (kx := 88) (i := 24) smVM rfl (by decide) ck88 (fun a D M v e1 e2 => by cases e1; exact e2.symm) (sm_noleaf_ok) rfl (e.symm.trans h) rfl
noncomputable def lf88_0 (D : sm_D) : Nat → List Value → List Value → sm_D → sm_M → Option (sm_S) := fun pc ls st D' M =>
  if pc = 21 then (match ls, st with
    | [gl0, gl1, gl2], [] => (jR_register_21 D' M)
    | _, _ => none)
  else if pc = 42 then (match ls, st with
    | [gl0, gl1, gl2], [.int bs0] => (jR_register_42 bs0 D' M)
    | _, _ => none)
  else none
theorem ll88_0 (D : sm_D) {R : sm_S} : ∀ (pc : Nat) (ls st : List Value) (D' : sm_D) (M : sm_M) (v : sm_S), (lf88_0 D) pc ls st D' M = some v → (fun v => v = R) v → sm_WJ smT smCl smSa shM f88 1 pc ls st D' M R := by
  intro pc ls st D' M v h hv
  unfold lf88_0 at h
  by_cases hp0 : pc = 21
  · subst hp0
    rw [if_pos (show (21 : Nat) = 21 from rfl)] at h
    split at h
    · skip
      have hv : v = R := hv
      subst hv
      exact w88_21  h
    · cases h
  · rw [if_neg hp0] at h
    by_cases hp0 : pc = 42
    · subst hp0
      rw [if_pos (show (42 : Nat) = 42 from rfl)] at h
      split at h
      · skip
        have hv : v = R := hv
        subst hv
        exact w88_42  h
      · cases h
    · rw [if_neg hp0] at h
      cases h
set_option maxRecDepth 20000 in
set_option maxHeartbeats 4000000 in
theorem we88 {l1 l2 : Int32} {D : sm_D} {M : sm_M} {R : sm_S} (h : jR_register l1 l2 D M = some R) : sm_WJ smT smCl smSa shM f88 1 0 [.ref 1, .int l1, .int l2] [] D M R := by
  have e : jR_register l1 l2 D M = (sm_run shM smSa cal88 c88 false (fun a D M => some (a, D, M)) (lf88_0 D) 30 (c88.drop 0) [.ref 1, .int l1, .int l2] [] D M : Option (sm_S)) := rfl
  exact sm_blk (ρ := sm_S) (gd := (fun v => v = R)) (kx := 88) (i := 0) smVM rfl (by decide) ck88 (fun a D M v e1 e2 => by cases e1; exact e2.symm) (ll88_0 D) rfl (e.symm.trans h) rfl
theorem m88 {l1 l2 : Int32} {D : sm_D} {M : sm_M} {R : sm_S} (h : jR_register l1 l2 D M = some R) : sm_MJ smT smCl smSa shM f88 1 [.ref 1, .int l1, .int l2] D M R :=
  sm_met (by decide) (Nat.le_of_ble_eq_true rfl) (List.all_eq_true.mp rfl) (we88  h)
