-- jK_canWrap
noncomputable def cal97  : sm_Cal := fun x as D M =>
  if x = 152 then (match as with
    | [.ref 1, .int a1] => (jT_kindOf a1 D M)
    | _ => none)
  else if x = 153 then (match as with
    | [.ref 1, .int a1] => (jT_firstOf a1 D M)
    | _ => none)
  else if x = 154 then (match as with
    | [.ref 1, .int a1] => (jT_secondOf a1 D M)
    | _ => none)
  else if x = 96 then (match as with
    | [.ref 31, .int a1] => (jK_taken a1 D M)
    | _ => none)
  else if x = 155 then (match as with
    | [.ref 1, .int a1] => (jT_thirdOf a1 D M)
    | _ => none)
  else if x = 98 then (match as with
    | [.ref 31, .int a1, .int a2] => (jK_waitsFor a1 a2 D M)
    | _ => none)
  else none
theorem ck97  : sm_CalOk smT smCl smP smSa shC 3 cal97 := by
  intro x g as D M R hx h
  unfold cal97 at h
  by_cases hx' : x = 152
  · subst hx'
    rw [if_pos (show (152 : Nat) = 152 from rfl)] at h
    cases (show smP[152]? = some f152 from rfl).symm.trans hx
    split at h
    · skip
      exact Or.inl ⟨1, by omega, m152   h⟩
    · cases h
  · rw [if_neg hx'] at h
    by_cases hx' : x = 153
    · subst hx'
      rw [if_pos (show (153 : Nat) = 153 from rfl)] at h
      cases (show smP[153]? = some f153 from rfl).symm.trans hx
      split at h
      · skip
        exact Or.inl ⟨1, by omega, m153   h⟩
      · cases h
    · rw [if_neg hx'] at h
      by_cases hx' : x = 154
      · subst hx'
        rw [if_pos (show (154 : Nat) = 154 from rfl)] at h
        cases (show smP[154]? = some f154 from rfl).symm.trans hx
        split at h
        · skip
          exact Or.inl ⟨1, by omega, m154   h⟩
        · cases h
      · rw [if_neg hx'] at h
        by_cases hx' : x = 96
        · subst hx'
          rw [if_pos (show (96 : Nat) = 96 from rfl)] at h
          cases (show smP[96]? = some f96 from rfl).symm.trans hx
          split at h
          · skip
            exact Or.inl ⟨2, by omega, m96   h⟩
          · cases h
        · rw [if_neg hx'] at h
          by_cases hx' : x = 155
          · subst hx'
            rw [if_pos (show (155 : Nat) = 155 from rfl)] at h
            cases (show smP[155]? = some f155 from rfl).symm.trans hx
            split at h
            · skip
              exact Or.inl ⟨1, by omega, m155   h⟩
            · cases h
          · rw [if_neg hx'] at h
            by_cases hx' : x = 98
            · subst hx'
              rw [if_pos (show (98 : Nat) = 98 from rfl)] at h
              cases (show smP[98]? = some f98 from rfl).symm.trans hx
              split at h
              · skip
                exact Or.inl ⟨2, by omega, m98   h⟩
              · cases h
            · rw [if_neg hx'] at h
              cases h
set_option maxRecDepth 20000 in
set_option maxHeartbeats 4000000 in
theorem w97_54 {g0 g1 g2 g3 : Value} {D : sm_D} {M : sm_M} {R : sm_S} (h : jK_canWrap_54 D M = some R) : sm_WJ smT smCl smSa shC f97 3 54 [g0, g1, g2, g3] [] D M R := by
  have e : jK_canWrap_54 D M = (sm_run shC smSa cal97 c97 true (fun a D M => some (a, D, M)) sm_noleaf 55 (c97.drop 28) [g0, g1, g2, g3] [] D M : Option (sm_S)) := rfl
  exact sm_blk (ρ := sm_S) (gd := (fun v => v = R)) (kx := 97) (i := 28) smVC rfl (by decide) ck97 (fun a D M v e1 e2 => by cases e1; exact e2.symm) (sm_noleaf_ok) rfl (e.symm.trans h) rfl
set_option maxRecDepth 20000 in
set_option maxHeartbeats 4000000 in
theorem w97_93 {s0 : Int32} {g0 g1 g2 g3 : Value} {D : sm_D} {M : sm_M} {R : sm_S} (h : jK_canWrap_93 s0 D M = some R) : sm_WJ smT smCl smSa shC f97 3 93 [g0, g1, g2, g3] [.int s0] D M R := by
  have e : jK_canWrap_93 s0 D M = (sm_run shC smSa cal97 c97 true (fun a D M => some (a, D, M)) sm_noleaf 55 (c97.drop 49) [g0, g1, g2, g3] [.int s0] D M : Option (sm_S)) := rfl
  exact sm_blk (ρ := sm_S) (gd := (fun v => v = R)) (kx := 97) (i := 49) smVC rfl (by decide) ck97 (fun a D M v e1 e2 => by cases e1; exact e2.symm) (sm_noleaf_ok) rfl (e.symm.trans h) rfl
noncomputable def lf97_92 (D : sm_D) : Nat → List Value → List Value → sm_D → sm_M → Option (sm_S) := fun pc ls st D' M =>
  if pc = 93 then (match ls, st with
    | [gl0, gl1, gl2, gl3], [.int bs0] => (jK_canWrap_93 bs0 D' M)
    | _, _ => none)
  else none
theorem ll97_92 (D : sm_D) {R : sm_S} : ∀ (pc : Nat) (ls st : List Value) (D' : sm_D) (M : sm_M) (v : sm_S), (lf97_92 D) pc ls st D' M = some v → (fun v => v = R) v → sm_WJ smT smCl smSa shC f97 3 pc ls st D' M R := by
  intro pc ls st D' M v h hv
  unfold lf97_92 at h
  by_cases hp0 : pc = 93
  · subst hp0
    rw [if_pos (show (93 : Nat) = 93 from rfl)] at h
    split at h
    · skip
      have hv : v = R := hv
      subst hv
      exact w97_93  h
    · cases h
  · rw [if_neg hp0] at h
    cases h
set_option maxRecDepth 20000 in
set_option maxHeartbeats 4000000 in
theorem w97_92 {g0 g1 g2 g3 : Value} {D : sm_D} {M : sm_M} {R : sm_S} (h : jK_canWrap_92 D M = some R) : sm_WJ smT smCl smSa shC f97 3 92 [g0, g1, g2, g3] [] D M R := by
  have e : jK_canWrap_92 D M = (sm_run shC smSa cal97 c97 true (fun a D M => some (a, D, M)) (lf97_92 D) 55 (c97.drop 48) [g0, g1, g2, g3] [] D M : Option (sm_S)) := rfl
  exact sm_blk (ρ := sm_S) (gd := (fun v => v = R)) (kx := 97) (i := 48) smVC rfl (by decide) ck97 (fun a D M v e1 e2 => by cases e1; exact e2.symm) (ll97_92 D) rfl (e.symm.trans h) rfl
noncomputable def lf97_0 (D : sm_D) : Nat → List Value → List Value → sm_D → sm_M → Option (sm_S) := fun pc ls st D' M =>
  if pc = 54 then (match ls, st with
    | [gl0, gl1, gl2, gl3], [] => (jK_canWrap_54 D' M)
    | _, _ => none)
  else if pc = 92 then (match ls, st with
    | [gl0, gl1, gl2, gl3], [] => (jK_canWrap_92 D' M)
    | _, _ => none)
  else if pc = 93 then (match ls, st with
    | [gl0, gl1, gl2, gl3], [.int bs0] => (jK_canWrap_93 bs0 D' M)
    | _, _ => none)
  else none
theorem ll97_0 (D : sm_D) {R : sm_S} : ∀ (pc : Nat) (ls st : List Value) (D' : sm_D) (M : sm_M) (v : sm_S), (lf97_0 D) pc ls st D' M = some v → (fun v => v = R) v → sm_WJ smT smCl smSa shC f97 3 pc ls st D' M R := by
  intro pc ls st D' M v h hv
  unfold lf97_0 at h
  by_cases hp0 : pc = 54
  · subst hp0
    rw [if_pos (show (54 : Nat) = 54 from rfl)] at h
    split at h
    · skip
      have hv : v = R := hv
      subst hv
      exact w97_54  h
    · cases h
  · rw [if_neg hp0] at h
    by_cases hp0 : pc = 92
    · subst hp0
      rw [if_pos (show (92 : Nat) = 92 from rfl)] at h
      split at h
      · skip
        have hv : v = R := hv
        subst hv
        exact w97_92  h
      · cases h
    · rw [if_neg hp0] at h
      by_cases hp0 : pc = 93
      · subst hp0
        rw [if_pos (show (93 : Nat) = 93 from rfl)] at h
        split at h
        · skip
          have hv : v = R := hv
          subst hv
          exact w97_93  h
        · cases h
      · rw [if_neg hp0] at h
        cases h
set_option maxRecDepth 20000 in
set_option maxHeartbeats 4000000 in
theorem we97 {l1 l2 : Int32} {D : sm_D} {M : sm_M} {R : sm_S} (h : jK_canWrap l1 l2 D M = some R) : sm_WJ smT smCl smSa shC f97 3 0 [.ref 31, .int l1, .int l2, .retAddr 0] [] D M R := by
  have e : jK_canWrap l1 l2 D M = (sm_run shC smSa cal97 c97 true (fun a D M => some (a, D, M)) (lf97_0 D) 55 (c97.drop 0) [.ref 31, .int l1, .int l2, .retAddr 0] [] D M : Option (sm_S)) := rfl
  exact sm_blk (ρ := sm_S) (gd := (fun v => v = R)) (kx := 97) (i := 0) smVC rfl (by decide) ck97 (fun a D M v e1 e2 => by cases e1; exact e2.symm) (ll97_0 D) rfl (e.symm.trans h) rfl
theorem m97 {l1 l2 : Int32} {D : sm_D} {M : sm_M} {R : sm_S} (h : jK_canWrap l1 l2 D M = some R) : sm_MJ smT smCl smSa shC f97 3 [.ref 31, .int l1, .int l2] D M R :=
  sm_met (by decide) (Nat.le_of_ble_eq_true rfl) (List.all_eq_true.mp rfl) (we97  h)

-- jT_hidden
noncomputable def cal157  : sm_Cal := fun x as D M =>
  if x = 159 then (match as with
    | [.ref 1, .int a1, .int a2, .int a3, .int a4] => (jT_find a1 a2 a3 a4 D M)
    | _ => none)
  else none
theorem ck157  : sm_CalOk smT smCl smP smSa shC 2 cal157 := by
  intro x g as D M R hx h
  unfold cal157 at h
  by_cases hx' : x = 159
  · subst hx'
    rw [if_pos (show (159 : Nat) = 159 from rfl)] at h
    cases (show smP[159]? = some f159 from rfl).symm.trans hx
    split at h
    · skip
      exact Or.inl ⟨1, by omega, m159   h⟩
    · cases h
  · rw [if_neg hx'] at h
    cases h
set_option maxRecDepth 20000 in
set_option maxHeartbeats 4000000 in
theorem we157 {D : sm_D} {M : sm_M} {R : sm_S} (h : jT_hidden D M = some R) : sm_WJ smT smCl smSa shC f157 2 0 [.ref 1] [] D M R := by
  have e : jT_hidden D M = (sm_run shC smSa cal157 c157 false (fun a D M => some (a, D, M)) sm_noleaf 13 (c157.drop 0) [.ref 1] [] D M : Option (sm_S)) := rfl
  exact sm_blk (ρ := sm_S) (gd := (fun v => v = R)) (kx := 157) (i := 0) smVC rfl (by decide) ck157 (fun a D M v e1 e2 => by cases e1; exact e2.symm) (sm_noleaf_ok) rfl (e.symm.trans h) rfl
theorem m157 {D : sm_D} {M : sm_M} {R : sm_S} (h : jT_hidden D M = some R) : sm_MJ smT smCl smSa shC f157 2 [.ref 1] D M R :=
  sm_met (by decide) (Nat.le_of_ble_eq_true rfl) (List.all_eq_true.mp rfl) (we157  h)

-- jK_opens
noncomputable def cal99  : sm_Cal := fun x as D M =>
  if x = 152 then (match as with
    | [.ref 1, .int a1] => (jT_kindOf a1 D M)
    | _ => none)
  else if x = 157 then (match as with
    | [.ref 1] => (jT_hidden D M)
    | _ => none)
  else if x = 154 then (match as with
    | [.ref 1, .int a1] => (jT_secondOf a1 D M)
    | _ => none)
  else if x = 159 then (match as with
    | [.ref 1, .int a1, .int a2, .int a3, .int a4] => (jT_find a1 a2 a3 a4 D M)
    | _ => none)
  else if x = 96 then (match as with
    | [.ref 31, .int a1] => (jK_taken a1 D M)
    | _ => none)
  else if x = 94 then (match as with
    | [.ref 31, .int a1, .int a2] => (jK_gets a1 a2 D M)
    | _ => none)
  else none
theorem ck99  : sm_CalOk smT smCl smP smSa shC 3 cal99 := by
  intro x g as D M R hx h
  unfold cal99 at h
  by_cases hx' : x = 152
  · subst hx'
    rw [if_pos (show (152 : Nat) = 152 from rfl)] at h
    cases (show smP[152]? = some f152 from rfl).symm.trans hx
    split at h
    · skip
      exact Or.inl ⟨1, by omega, m152   h⟩
    · cases h
  · rw [if_neg hx'] at h
    by_cases hx' : x = 157
    · subst hx'
      rw [if_pos (show (157 : Nat) = 157 from rfl)] at h
      cases (show smP[157]? = some f157 from rfl).symm.trans hx
      split at h
      · skip
        exact Or.inl ⟨2, by omega, m157   h⟩
      · cases h
    · rw [if_neg hx'] at h
      by_cases hx' : x = 154
      · subst hx'
        rw [if_pos (show (154 : Nat) = 154 from rfl)] at h
        cases (show smP[154]? = some f154 from rfl).symm.trans hx
        split at h
        · skip
          exact Or.inl ⟨1, by omega, m154   h⟩
        · cases h
      · rw [if_neg hx'] at h
        by_cases hx' : x = 159
        · subst hx'
          rw [if_pos (show (159 : Nat) = 159 from rfl)] at h
          cases (show smP[159]? = some f159 from rfl).symm.trans hx
          split at h
          · skip
            exact Or.inl ⟨1, by omega, m159   h⟩
          · cases h
        · rw [if_neg hx'] at h
          by_cases hx' : x = 96
          · subst hx'
            rw [if_pos (show (96 : Nat) = 96 from rfl)] at h
            cases (show smP[96]? = some f96 from rfl).symm.trans hx
            split at h
            · skip
              exact Or.inl ⟨2, by omega, m96   h⟩
            · cases h
          · rw [if_neg hx'] at h
            by_cases hx' : x = 94
            · subst hx'
              rw [if_pos (show (94 : Nat) = 94 from rfl)] at h
              cases (show smP[94]? = some f94 from rfl).symm.trans hx
              split at h
              · skip
                exact Or.inl ⟨0, by omega, m94   h⟩
              · cases h
            · rw [if_neg hx'] at h
              cases h
set_option maxRecDepth 20000 in
set_option maxHeartbeats 4000000 in
theorem w99_116 {s0 : Int32} {g0 g1 g2 g3 g4 g5 g6 : Value} {D : sm_D} {M : sm_M} {R : sm_S} (h : jK_opens_116 s0 D M = some R) : sm_WJ smT smCl smSa shC f99 3 116 [g0, g1, g2, g3, g4, g5, g6] [.int s0] D M R := by
  have e : jK_opens_116 s0 D M = (sm_run shC smSa cal99 c99 true (fun a D M => some (a, D, M)) sm_noleaf 66 (c99.drop 60) [g0, g1, g2, g3, g4, g5, g6] [.int s0] D M : Option (sm_S)) := rfl
  exact sm_blk (ρ := sm_S) (gd := (fun v => v = R)) (kx := 99) (i := 60) smVC rfl (by decide) ck99 (fun a D M v e1 e2 => by cases e1; exact e2.symm) (sm_noleaf_ok) rfl (e.symm.trans h) rfl
noncomputable def lf99_115 (D : sm_D) : Nat → List Value → List Value → sm_D → sm_M → Option (sm_S) := fun pc ls st D' M =>
  if pc = 116 then (match ls, st with
    | [gl0, gl1, gl2, gl3, gl4, gl5, gl6], [.int bs0] => (jK_opens_116 bs0 D' M)
    | _, _ => none)
  else none
theorem ll99_115 (D : sm_D) {R : sm_S} : ∀ (pc : Nat) (ls st : List Value) (D' : sm_D) (M : sm_M) (v : sm_S), (lf99_115 D) pc ls st D' M = some v → (fun v => v = R) v → sm_WJ smT smCl smSa shC f99 3 pc ls st D' M R := by
  intro pc ls st D' M v h hv
  unfold lf99_115 at h
  by_cases hp0 : pc = 116
  · subst hp0
    rw [if_pos (show (116 : Nat) = 116 from rfl)] at h
    split at h
    · skip
      have hv : v = R := hv
      subst hv
      exact w99_116  h
    · cases h
  · rw [if_neg hp0] at h
    cases h
set_option maxRecDepth 20000 in
set_option maxHeartbeats 4000000 in
theorem w99_115 {g0 g1 g2 g3 g4 g5 g6 : Value} {D : sm_D} {M : sm_M} {R : sm_S} (h : jK_opens_115 D M = some R) : sm_WJ smT smCl smSa shC f99 3 115 [g0, g1, g2, g3, g4, g5, g6] [] D M R := by
  have e : jK_opens_115 D M = (sm_run shC smSa cal99 c99 true (fun a D M => some (a, D, M)) (lf99_115 D) 66 (c99.drop 59) [g0, g1, g2, g3, g4, g5, g6] [] D M : Option (sm_S)) := rfl
  exact sm_blk (ρ := sm_S) (gd := (fun v => v = R)) (kx := 99) (i := 59) smVC rfl (by decide) ck99 (fun a D M v e1 e2 => by cases e1; exact e2.symm) (ll99_115 D) rfl (e.symm.trans h) rfl
noncomputable def lf99_74 (D : sm_D) : Nat → List Value → List Value → sm_D → sm_M → Option (sm_S) := fun pc ls st D' M =>
  if pc = 115 then (match ls, st with
    | [gl0, gl1, gl2, gl3, gl4, gl5, gl6], [] => (jK_opens_115 D' M)
    | _, _ => none)
  else if pc = 116 then (match ls, st with
    | [gl0, gl1, gl2, gl3, gl4, gl5, gl6], [.int bs0] => (jK_opens_116 bs0 D' M)
    | _, _ => none)
  else none
theorem ll99_74 (D : sm_D) {R : sm_S} : ∀ (pc : Nat) (ls st : List Value) (D' : sm_D) (M : sm_M) (v : sm_S), (lf99_74 D) pc ls st D' M = some v → (fun v => v = R) v → sm_WJ smT smCl smSa shC f99 3 pc ls st D' M R := by
  intro pc ls st D' M v h hv
  unfold lf99_74 at h
  by_cases hp0 : pc = 115
  · subst hp0
    rw [if_pos (show (115 : Nat) = 115 from rfl)] at h
    split at h
    · skip
      have hv : v = R := hv
      subst hv
      exact w99_115  h
    · cases h
  · rw [if_neg hp0] at h
    by_cases hp0 : pc = 116
    · subst hp0
      rw [if_pos (show (116 : Nat) = 116 from rfl)] at h
      split at h
      · skip
        have hv : v = R := hv
        subst hv
        exact w99_116  h
      · cases h
    · rw [if_neg hp0] at h
      cases h
set_option maxRecDepth 20000 in
set_option maxHeartbeats 4000000 in
theorem w99_74 {l1 l2 l3 l5 s0 : Int32} {g4 g6 : Value} {D : sm_D} {M : sm_M} {R : sm_S} (h : jK_opens_74 l1 l2 l3 l5 s0 D M = some R) : sm_WJ smT smCl smSa shC f99 3 74 [.ref 31, .int l1, .int l2, .int l3, g4, .int l5, g6] [.int s0] D M R := by
  have e : jK_opens_74 l1 l2 l3 l5 s0 D M = (sm_run shC smSa cal99 c99 true (fun a D M => some (a, D, M)) (lf99_74 D) 66 (c99.drop 38) [.ref 31, .int l1, .int l2, .int l3, g4, .int l5, g6] [.int s0] D M : Option (sm_S)) := rfl
  exact sm_blk (ρ := sm_S) (gd := (fun v => v = R)) (kx := 99) (i := 38) smVC rfl (by decide) ck99 (fun a D M v e1 e2 => by cases e1; exact e2.symm) (ll99_74 D) rfl (e.symm.trans h) rfl
noncomputable def lf99_38 (D : sm_D) : Nat → List Value → List Value → sm_D → sm_M → Option (sm_S) := fun pc ls st D' M =>
  if pc = 74 then (match ls, st with
    | [.ref 31, .int bl1, .int bl2, .int bl3, gl4, .int bl5, gl6], [.int bs0] => (jK_opens_74 bl1 bl2 bl3 bl5 bs0 D' M)
    | _, _ => none)
  else none
theorem ll99_38 (D : sm_D) {R : sm_S} : ∀ (pc : Nat) (ls st : List Value) (D' : sm_D) (M : sm_M) (v : sm_S), (lf99_38 D) pc ls st D' M = some v → (fun v => v = R) v → sm_WJ smT smCl smSa shC f99 3 pc ls st D' M R := by
  intro pc ls st D' M v h hv
  unfold lf99_38 at h
  by_cases hp0 : pc = 74
  · subst hp0
    rw [if_pos (show (74 : Nat) = 74 from rfl)] at h
    split at h
    · skip
      have hv : v = R := hv
      subst hv
      exact w99_74  h
    · cases h
  · rw [if_neg hp0] at h
    cases h
set_option maxRecDepth 20000 in
set_option maxHeartbeats 4000000 in
theorem w99_38 {l1 l2 l3 l4 : Int32} {g5 g6 : Value} {D : sm_D} {M : sm_M} {R : sm_S} (h : jK_opens_38 l1 l2 l3 l4 D M = some R) : sm_WJ smT smCl smSa shC f99 3 38 [.ref 31, .int l1, .int l2, .int l3, .int l4, g5, g6] [] D M R := by
  have e : jK_opens_38 l1 l2 l3 l4 D M = (sm_run shC smSa cal99 c99 true (fun a D M => some (a, D, M)) (lf99_38 D) 66 (c99.drop 20) [.ref 31, .int l1, .int l2, .int l3, .int l4, g5, g6] [] D M : Option (sm_S)) := rfl
  exact sm_blk (ρ := sm_S) (gd := (fun v => v = R)) (kx := 99) (i := 20) smVC rfl (by decide) ck99 (fun a D M v e1 e2 => by cases e1; exact e2.symm) (ll99_38 D) rfl (e.symm.trans h) rfl
noncomputable def lf99_17 (D : sm_D) : Nat → List Value → List Value → sm_D → sm_M → Option (sm_S) := fun pc ls st D' M =>
  if pc = 38 then (match ls, st with
    | [.ref 31, .int bl1, .int bl2, .int bl3, .int bl4, gl5, gl6], [] => (jK_opens_38 bl1 bl2 bl3 bl4 D' M)
    | _, _ => none)
  else none
theorem ll99_17 (D : sm_D) {R : sm_S} : ∀ (pc : Nat) (ls st : List Value) (D' : sm_D) (M : sm_M) (v : sm_S), (lf99_17 D) pc ls st D' M = some v → (fun v => v = R) v → sm_WJ smT smCl smSa shC f99 3 pc ls st D' M R := by
  intro pc ls st D' M v h hv
  unfold lf99_17 at h
  by_cases hp0 : pc = 38
  · subst hp0
    rw [if_pos (show (38 : Nat) = 38 from rfl)] at h
    split at h
    · skip
      have hv : v = R := hv
      subst hv
      exact w99_38  h
    · cases h
  · rw [if_neg hp0] at h
    cases h
set_option maxRecDepth 20000 in
set_option maxHeartbeats 4000000 in
theorem w99_17 {l1 l2 l3 s0 : Int32} {g4 g5 g6 : Value} {D : sm_D} {M : sm_M} {R : sm_S} (h : jK_opens_17 l1 l2 l3 s0 D M = some R) : sm_WJ smT smCl smSa shC f99 3 17 [.ref 31, .int l1, .int l2, .int l3, g4, g5, g6] [.int s0] D M R := by
  have e : jK_opens_17 l1 l2 l3 s0 D M = (sm_run shC smSa cal99 c99 true (fun a D M => some (a, D, M)) (lf99_17 D) 66 (c99.drop 9) [.ref 31, .int l1, .int l2, .int l3, g4, g5, g6] [.int s0] D M : Option (sm_S)) := rfl
  exact sm_blk (ρ := sm_S) (gd := (fun v => v = R)) (kx := 99) (i := 9) smVC rfl (by decide) ck99 (fun a D M v e1 e2 => by cases e1; exact e2.symm) (ll99_17 D) rfl (e.symm.trans h) rfl
noncomputable def lf99_0 (D : sm_D) : Nat → List Value → List Value → sm_D → sm_M → Option (sm_S) := fun pc ls st D' M =>
  if pc = 17 then (match ls, st with
    | [.ref 31, .int bl1, .int bl2, .int bl3, gl4, gl5, gl6], [.int bs0] => (jK_opens_17 bl1 bl2 bl3 bs0 D' M)
    | _, _ => none)
  else none
theorem ll99_0 (D : sm_D) {R : sm_S} : ∀ (pc : Nat) (ls st : List Value) (D' : sm_D) (M : sm_M) (v : sm_S), (lf99_0 D) pc ls st D' M = some v → (fun v => v = R) v → sm_WJ smT smCl smSa shC f99 3 pc ls st D' M R := by
  intro pc ls st D' M v h hv
  unfold lf99_0 at h
  by_cases hp0 : pc = 17
  · subst hp0
    rw [if_pos (show (17 : Nat) = 17 from rfl)] at h
    split at h
    · skip
      have hv : v = R := hv
      subst hv
      exact w99_17  h
    · cases h
  · rw [if_neg hp0] at h
    cases h
set_option maxRecDepth 20000 in
set_option maxHeartbeats 4000000 in
theorem we99 {l1 l2 l3 : Int32} {D : sm_D} {M : sm_M} {R : sm_S} (h : jK_opens l1 l2 l3 D M = some R) : sm_WJ smT smCl smSa shC f99 3 0 [.ref 31, .int l1, .int l2, .int l3, .retAddr 0, .retAddr 0, .retAddr 0] [] D M R := by
  have e : jK_opens l1 l2 l3 D M = (sm_run shC smSa cal99 c99 true (fun a D M => some (a, D, M)) (lf99_0 D) 66 (c99.drop 0) [.ref 31, .int l1, .int l2, .int l3, .retAddr 0, .retAddr 0, .retAddr 0] [] D M : Option (sm_S)) := rfl
  exact sm_blk (ρ := sm_S) (gd := (fun v => v = R)) (kx := 99) (i := 0) smVC rfl (by decide) ck99 (fun a D M v e1 e2 => by cases e1; exact e2.symm) (ll99_0 D) rfl (e.symm.trans h) rfl
theorem m99 {l1 l2 l3 : Int32} {D : sm_D} {M : sm_M} {R : sm_S} (h : jK_opens l1 l2 l3 D M = some R) : sm_MJ smT smCl smSa shC f99 3 [.ref 31, .int l1, .int l2, .int l3] D M R :=
  sm_met (by decide) (Nat.le_of_ble_eq_true rfl) (List.all_eq_true.mp rfl) (we99  h)

-- jK_canGive
set_option maxRecDepth 20000 in
set_option maxHeartbeats 4000000 in
theorem w102_20 {s0 : Int32} {g0 g1 g2 : Value} {D : sm_D} {M : sm_M} {R : sm_S} (h : jK_canGive_20 s0 D M = some R) : sm_WJ smT smCl smSa shC f102 0 20 [g0, g1, g2] [.int s0] D M R := by
  have e : jK_canGive_20 s0 D M = (sm_run shC smSa sm_nocal c102 true (fun a D M => some (a, D, M)) sm_noleaf 18 (c102.drop 12) [g0, g1, g2] [.int s0] D M : Option (sm_S)) := rfl
  exact sm_blk (ρ := sm_S) (gd := (fun v => v = R)) (kx := 102) (i := 12) smVC rfl (by decide) (sm_nocal_ok smT smCl smP smSa shC 0) (fun a D M v e1 e2 => by cases e1; exact e2.symm) (sm_noleaf_ok) rfl (e.symm.trans h) rfl
noncomputable def lf102_15 (D : sm_D) : Nat → List Value → List Value → sm_D → sm_M → Option (sm_S) := fun pc ls st D' M =>
  if pc = 20 then (match ls, st with
    | [gl0, gl1, gl2], [.int bs0] => (jK_canGive_20 bs0 D' M)
    | _, _ => none)
  else none
theorem ll102_15 (D : sm_D) {R : sm_S} : ∀ (pc : Nat) (ls st : List Value) (D' : sm_D) (M : sm_M) (v : sm_S), (lf102_15 D) pc ls st D' M = some v → (fun v => v = R) v → sm_WJ smT smCl smSa shC f102 0 pc ls st D' M R := by
  intro pc ls st D' M v h hv
  unfold lf102_15 at h
  by_cases hp0 : pc = 20
  · subst hp0
    rw [if_pos (show (20 : Nat) = 20 from rfl)] at h
    split at h
    · skip
      have hv : v = R := hv
      subst hv
      exact w102_20  h
    · cases h
  · rw [if_neg hp0] at h
    cases h
set_option maxRecDepth 20000 in
set_option maxHeartbeats 4000000 in
theorem w102_15 {g0 g1 g2 : Value} {D : sm_D} {M : sm_M} {R : sm_S} (h : jK_canGive_15 D M = some R) : sm_WJ smT smCl smSa shC f102 0 15 [g0, g1, g2] [] D M R := by
  have e : jK_canGive_15 D M = (sm_run shC smSa sm_nocal c102 true (fun a D M => some (a, D, M)) (lf102_15 D) 18 (c102.drop 9) [g0, g1, g2] [] D M : Option (sm_S)) := rfl
  exact sm_blk (ρ := sm_S) (gd := (fun v => v = R)) (kx := 102) (i := 9) smVC rfl (by decide) (sm_nocal_ok smT smCl smP smSa shC 0) (fun a D M v e1 e2 => by cases e1; exact e2.symm) (ll102_15 D) rfl (e.symm.trans h) rfl
noncomputable def lf102_0 (D : sm_D) : Nat → List Value → List Value → sm_D → sm_M → Option (sm_S) := fun pc ls st D' M =>
  if pc = 15 then (match ls, st with
    | [gl0, gl1, gl2], [] => (jK_canGive_15 D' M)
    | _, _ => none)
  else if pc = 20 then (match ls, st with
    | [gl0, gl1, gl2], [.int bs0] => (jK_canGive_20 bs0 D' M)
    | _, _ => none)
  else none
theorem ll102_0 (D : sm_D) {R : sm_S} : ∀ (pc : Nat) (ls st : List Value) (D' : sm_D) (M : sm_M) (v : sm_S), (lf102_0 D) pc ls st D' M = some v → (fun v => v = R) v → sm_WJ smT smCl smSa shC f102 0 pc ls st D' M R := by
  intro pc ls st D' M v h hv
  unfold lf102_0 at h
  by_cases hp0 : pc = 15
  · subst hp0
    rw [if_pos (show (15 : Nat) = 15 from rfl)] at h
    split at h
    · skip
      have hv : v = R := hv
      subst hv
      exact w102_15  h
    · cases h
  · rw [if_neg hp0] at h
    by_cases hp0 : pc = 20
    · subst hp0
      rw [if_pos (show (20 : Nat) = 20 from rfl)] at h
      split at h
      · skip
        have hv : v = R := hv
        subst hv
        exact w102_20  h
      · cases h
    · rw [if_neg hp0] at h
      cases h
set_option maxRecDepth 20000 in
set_option maxHeartbeats 4000000 in
theorem we102 {l1 l2 : Int32} {D : sm_D} {M : sm_M} {R : sm_S} (h : jK_canGive l1 l2 D M = some R) : sm_WJ smT smCl smSa shC f102 0 0 [.ref 31, .int l1, .int l2] [] D M R := by
  have e : jK_canGive l1 l2 D M = (sm_run shC smSa sm_nocal c102 true (fun a D M => some (a, D, M)) (lf102_0 D) 18 (c102.drop 0) [.ref 31, .int l1, .int l2] [] D M : Option (sm_S)) := rfl
  exact sm_blk (ρ := sm_S) (gd := (fun v => v = R)) (kx := 102) (i := 0) smVC rfl (by decide) (sm_nocal_ok smT smCl smP smSa shC 0) (fun a D M v e1 e2 => by cases e1; exact e2.symm) (ll102_0 D) rfl (e.symm.trans h) rfl
theorem m102 {l1 l2 : Int32} {D : sm_D} {M : sm_M} {R : sm_S} (h : jK_canGive l1 l2 D M = some R) : sm_MJ smT smCl smSa shC f102 0 [.ref 31, .int l1, .int l2] D M R :=
  sm_met (by decide) (Nat.le_of_ble_eq_true rfl) (List.all_eq_true.mp rfl) (we102  h)

-- jK_canEnter
noncomputable def cal100  : sm_Cal := fun x as D M =>
  if x = 104 then (match as with
    | [.ref q0, .int a1] => (sm_ga [q0] gC (jC_hasBlock q0 a1 D M))
    | _ => none)
  else if x = 107 then (match as with
    | [.ref q0, .int a1, .int a2] => (sm_ga [q0] gC (jC_askedType q0 a1 a2 D M))
    | _ => none)
  else if x = 102 then (match as with
    | [.ref 31, .int a1, .int a2] => (jK_canGive a1 a2 D M)
    | _ => none)
  else none
theorem ck100  : sm_CalOk smT smCl smP smSa shC 2 cal100 := by
  intro x g as D M R hx h
  unfold cal100 at h
  by_cases hx' : x = 104
  · subst hx'
    rw [if_pos (show (104 : Nat) = 104 from rfl)] at h
    cases (show smP[104]? = some f104 from rfl).symm.trans hx
    split at h
    · replace h := sm_ga_inv h
      obtain ⟨h1, h⟩ := h
      exact Or.inl ⟨0, by omega, m104  h1 h⟩
    · cases h
  · rw [if_neg hx'] at h
    by_cases hx' : x = 107
    · subst hx'
      rw [if_pos (show (107 : Nat) = 107 from rfl)] at h
      cases (show smP[107]? = some f107 from rfl).symm.trans hx
      split at h
      · replace h := sm_ga_inv h
        obtain ⟨h1, h⟩ := h
        exact Or.inl ⟨1, by omega, m107  h1 h⟩
      · cases h
    · rw [if_neg hx'] at h
      by_cases hx' : x = 102
      · subst hx'
        rw [if_pos (show (102 : Nat) = 102 from rfl)] at h
        cases (show smP[102]? = some f102 from rfl).symm.trans hx
        split at h
        · skip
          exact Or.inl ⟨0, by omega, m102   h⟩
        · cases h
      · rw [if_neg hx'] at h
        cases h
set_option maxRecDepth 20000 in
set_option maxHeartbeats 4000000 in
theorem w100_67 (d0 d1 d2 d3 d4 : Nat) (hd3 : [d3] ∈ gC) {s0 : Int32} {g0 g1 : Value} {M : sm_M} {R : sm_S} (h : jK_canEnter_67 d0 d1 d2 d3 d4 s0 M = some R) : sm_WJ smT smCl smSa shC f100 2 67 [g0, g1] [.int s0] [d0, d1, d2, d3, d4] M R := by
  rcases gC_inv hd3 with rfl | rfl
  · have e : jK_canEnter_67 d0 d1 d2 40 d4 s0 M = (sm_run shC smSa cal100 c100 true (fun a D M => some (a, D, M)) sm_noleaf 41 (c100.drop 35) [g0, g1] [.int s0] [d0, d1, d2, 40, d4] M : Option (sm_S)) := rfl
    exact sm_blk (ρ := sm_S) (gd := (fun v => v = R)) (kx := 100) (i := 35) smVC rfl (by decide) ck100 (fun a D M v e1 e2 => by cases e1; exact e2.symm) (sm_noleaf_ok) rfl (e.symm.trans h) rfl
  · have e : jK_canEnter_67 d0 d1 d2 50 d4 s0 M = (sm_run shC smSa cal100 c100 true (fun a D M => some (a, D, M)) sm_noleaf 41 (c100.drop 35) [g0, g1] [.int s0] [d0, d1, d2, 50, d4] M : Option (sm_S)) := rfl
    exact sm_blk (ρ := sm_S) (gd := (fun v => v = R)) (kx := 100) (i := 35) smVC rfl (by decide) ck100 (fun a D M v e1 e2 => by cases e1; exact e2.symm) (sm_noleaf_ok) rfl (e.symm.trans h) rfl
noncomputable def lf100_66 (d0 d1 d2 d3 d4 : Nat) : Nat → List Value → List Value → sm_D → sm_M → Option (sm_S) := fun pc ls st D' M =>
  if pc = 67 then (match ls, st with
    | [gl0, gl1], [.int bs0] => (sm_dq D' [d0, d1, d2, d3, d4] (jK_canEnter_67 d0 d1 d2 d3 d4 bs0 M))
    | _, _ => none)
  else none
theorem ll100_66 (d0 d1 d2 d3 d4 : Nat) (hd3 : [d3] ∈ gC) {R : sm_S} : ∀ (pc : Nat) (ls st : List Value) (D' : sm_D) (M : sm_M) (v : sm_S), (lf100_66 d0 d1 d2 d3 d4) pc ls st D' M = some v → (fun v => v = R) v → sm_WJ smT smCl smSa shC f100 2 pc ls st D' M R := by
  intro pc ls st D' M v h hv
  unfold lf100_66 at h
  by_cases hp0 : pc = 67
  · subst hp0
    rw [if_pos (show (67 : Nat) = 67 from rfl)] at h
    split at h
    · skip
      replace h := sm_dq_inv h
      obtain ⟨he, h⟩ := h
      subst he
      have hv : v = R := hv
      subst hv
      exact w100_67 _ _ _ _ _ hd3 h
    · cases h
  · rw [if_neg hp0] at h
    cases h
set_option maxRecDepth 20000 in
set_option maxHeartbeats 4000000 in
theorem w100_66 (d0 d1 d2 d3 d4 : Nat) (hd3 : [d3] ∈ gC) {g0 g1 : Value} {M : sm_M} {R : sm_S} (h : jK_canEnter_66 d0 d1 d2 d3 d4 M = some R) : sm_WJ smT smCl smSa shC f100 2 66 [g0, g1] [] [d0, d1, d2, d3, d4] M R := by
  rcases gC_inv hd3 with rfl | rfl
  · have e : jK_canEnter_66 d0 d1 d2 40 d4 M = (sm_run shC smSa cal100 c100 true (fun a D M => some (a, D, M)) (lf100_66 d0 d1 d2 40 d4) 41 (c100.drop 34) [g0, g1] [] [d0, d1, d2, 40, d4] M : Option (sm_S)) := rfl
    exact sm_blk (ρ := sm_S) (gd := (fun v => v = R)) (kx := 100) (i := 34) smVC rfl (by decide) ck100 (fun a D M v e1 e2 => by cases e1; exact e2.symm) (ll100_66 d0 d1 d2 40 d4 (by decide)) rfl (e.symm.trans h) rfl
  · have e : jK_canEnter_66 d0 d1 d2 50 d4 M = (sm_run shC smSa cal100 c100 true (fun a D M => some (a, D, M)) (lf100_66 d0 d1 d2 50 d4) 41 (c100.drop 34) [g0, g1] [] [d0, d1, d2, 50, d4] M : Option (sm_S)) := rfl
    exact sm_blk (ρ := sm_S) (gd := (fun v => v = R)) (kx := 100) (i := 34) smVC rfl (by decide) ck100 (fun a D M v e1 e2 => by cases e1; exact e2.symm) (ll100_66 d0 d1 d2 50 d4 (by decide)) rfl (e.symm.trans h) rfl
noncomputable def lf100_0 (d0 d1 d2 d3 d4 : Nat) : Nat → List Value → List Value → sm_D → sm_M → Option (sm_S) := fun pc ls st D' M =>
  if pc = 66 then (match ls, st with
    | [gl0, gl1], [] => (sm_dq D' [d0, d1, d2, d3, d4] (jK_canEnter_66 d0 d1 d2 d3 d4 M))
    | _, _ => none)
  else if pc = 67 then (match ls, st with
    | [gl0, gl1], [.int bs0] => (sm_dq D' [d0, d1, d2, d3, d4] (jK_canEnter_67 d0 d1 d2 d3 d4 bs0 M))
    | _, _ => none)
  else none
theorem ll100_0 (d0 d1 d2 d3 d4 : Nat) (hd3 : [d3] ∈ gC) {R : sm_S} : ∀ (pc : Nat) (ls st : List Value) (D' : sm_D) (M : sm_M) (v : sm_S), (lf100_0 d0 d1 d2 d3 d4) pc ls st D' M = some v → (fun v => v = R) v → sm_WJ smT smCl smSa shC f100 2 pc ls st D' M R := by
  intro pc ls st D' M v h hv
  unfold lf100_0 at h
  by_cases hp0 : pc = 66
  · subst hp0
    rw [if_pos (show (66 : Nat) = 66 from rfl)] at h
    split at h
    · skip
      replace h := sm_dq_inv h
      obtain ⟨he, h⟩ := h
      subst he
      have hv : v = R := hv
      subst hv
      exact w100_66 _ _ _ _ _ hd3 h
    · cases h
  · rw [if_neg hp0] at h
    by_cases hp0 : pc = 67
    · subst hp0
      rw [if_pos (show (67 : Nat) = 67 from rfl)] at h
      split at h
      · skip
        replace h := sm_dq_inv h
        obtain ⟨he, h⟩ := h
        subst he
        have hv : v = R := hv
        subst hv
        exact w100_67 _ _ _ _ _ hd3 h
      · cases h
    · rw [if_neg hp0] at h
      cases h
set_option maxRecDepth 20000 in
set_option maxHeartbeats 4000000 in
theorem we100 (d0 d1 d2 d3 d4 : Nat) (hd3 : [d3] ∈ gC) {l1 : Int32} {M : sm_M} {R : sm_S} (h : jK_canEnter d0 d1 d2 d3 d4 l1 M = some R) : sm_WJ smT smCl smSa shC f100 2 0 [.ref 31, .int l1] [] [d0, d1, d2, d3, d4] M R := by
  rcases gC_inv hd3 with rfl | rfl
  · have e : jK_canEnter d0 d1 d2 40 d4 l1 M = (sm_run shC smSa cal100 c100 true (fun a D M => some (a, D, M)) (lf100_0 d0 d1 d2 40 d4) 41 (c100.drop 0) [.ref 31, .int l1] [] [d0, d1, d2, 40, d4] M : Option (sm_S)) := rfl
    exact sm_blk (ρ := sm_S) (gd := (fun v => v = R)) (kx := 100) (i := 0) smVC rfl (by decide) ck100 (fun a D M v e1 e2 => by cases e1; exact e2.symm) (ll100_0 d0 d1 d2 40 d4 (by decide)) rfl (e.symm.trans h) rfl
  · have e : jK_canEnter d0 d1 d2 50 d4 l1 M = (sm_run shC smSa cal100 c100 true (fun a D M => some (a, D, M)) (lf100_0 d0 d1 d2 50 d4) 41 (c100.drop 0) [.ref 31, .int l1] [] [d0, d1, d2, 50, d4] M : Option (sm_S)) := rfl
    exact sm_blk (ρ := sm_S) (gd := (fun v => v = R)) (kx := 100) (i := 0) smVC rfl (by decide) ck100 (fun a D M v e1 e2 => by cases e1; exact e2.symm) (ll100_0 d0 d1 d2 50 d4 (by decide)) rfl (e.symm.trans h) rfl
theorem m100 {d0 d1 d2 d3 d4 : Nat} (hd3 : [d3] ∈ gC) {l1 : Int32} {M : sm_M} {R : sm_S} (h : jK_canEnter d0 d1 d2 d3 d4 l1 M = some R) : sm_MJ smT smCl smSa shC f100 2 [.ref 31, .int l1] [d0, d1, d2, d3, d4] M R :=
  sm_met (by decide) (Nat.le_of_ble_eq_true rfl) (List.all_eq_true.mp rfl) (we100 d0 d1 d2 d3 d4 hd3 h)

-- jK_canGo
noncomputable def cal101  : sm_Cal := fun x as D M =>
  if x = 153 then (match as with
    | [.ref 1, .int a1] => (jT_firstOf a1 D M)
    | _ => none)
  else if x = 102 then (match as with
    | [.ref 31, .int a1, .int a2] => (jK_canGive a1 a2 D M)
    | _ => none)
  else if x = 154 then (match as with
    | [.ref 1, .int a1] => (jT_secondOf a1 D M)
    | _ => none)
  else if x = 155 then (match as with
    | [.ref 1, .int a1] => (jT_thirdOf a1 D M)
    | _ => none)
  else none
theorem ck101  : sm_CalOk smT smCl smP smSa shC 2 cal101 := by
  intro x g as D M R hx h
  unfold cal101 at h
  by_cases hx' : x = 153
  · subst hx'
    rw [if_pos (show (153 : Nat) = 153 from rfl)] at h
    cases (show smP[153]? = some f153 from rfl).symm.trans hx
    split at h
    · skip
      exact Or.inl ⟨1, by omega, m153   h⟩
    · cases h
  · rw [if_neg hx'] at h
    by_cases hx' : x = 102
    · subst hx'
      rw [if_pos (show (102 : Nat) = 102 from rfl)] at h
      cases (show smP[102]? = some f102 from rfl).symm.trans hx
      split at h
      · skip
        exact Or.inl ⟨0, by omega, m102   h⟩
      · cases h
    · rw [if_neg hx'] at h
      by_cases hx' : x = 154
      · subst hx'
        rw [if_pos (show (154 : Nat) = 154 from rfl)] at h
        cases (show smP[154]? = some f154 from rfl).symm.trans hx
        split at h
        · skip
          exact Or.inl ⟨1, by omega, m154   h⟩
        · cases h
      · rw [if_neg hx'] at h
        by_cases hx' : x = 155
        · subst hx'
          rw [if_pos (show (155 : Nat) = 155 from rfl)] at h
          cases (show smP[155]? = some f155 from rfl).symm.trans hx
          split at h
          · skip
            exact Or.inl ⟨1, by omega, m155   h⟩
          · cases h
        · rw [if_neg hx'] at h
          cases h
set_option maxRecDepth 20000 in
set_option maxHeartbeats 4000000 in
theorem w101_53 {s0 : Int32} {g0 g1 : Value} {D : sm_D} {M : sm_M} {R : sm_S} (h : jK_canGo_53 s0 D M = some R) : sm_WJ smT smCl smSa shC f101 2 53 [g0, g1] [.int s0] D M R := by
  have e : jK_canGo_53 s0 D M = (sm_run shC smSa cal101 c101 true (fun a D M => some (a, D, M)) sm_noleaf 33 (c101.drop 27) [g0, g1] [.int s0] D M : Option (sm_S)) := rfl
  exact sm_blk (ρ := sm_S) (gd := (fun v => v = R)) (kx := 101) (i := 27) smVC rfl (by decide) ck101 (fun a D M v e1 e2 => by cases e1; exact e2.symm) (sm_noleaf_ok) rfl (e.symm.trans h) rfl
noncomputable def lf101_52 (D : sm_D) : Nat → List Value → List Value → sm_D → sm_M → Option (sm_S) := fun pc ls st D' M =>
  if pc = 53 then (match ls, st with
    | [gl0, gl1], [.int bs0] => (jK_canGo_53 bs0 D' M)
    | _, _ => none)
  else none
theorem ll101_52 (D : sm_D) {R : sm_S} : ∀ (pc : Nat) (ls st : List Value) (D' : sm_D) (M : sm_M) (v : sm_S), (lf101_52 D) pc ls st D' M = some v → (fun v => v = R) v → sm_WJ smT smCl smSa shC f101 2 pc ls st D' M R := by
  intro pc ls st D' M v h hv
  unfold lf101_52 at h
  by_cases hp0 : pc = 53
  · subst hp0
    rw [if_pos (show (53 : Nat) = 53 from rfl)] at h
    split at h
    · skip
      have hv : v = R := hv
      subst hv
      exact w101_53  h
    · cases h
  · rw [if_neg hp0] at h
    cases h
set_option maxRecDepth 20000 in
set_option maxHeartbeats 4000000 in
theorem w101_52 {g0 g1 : Value} {D : sm_D} {M : sm_M} {R : sm_S} (h : jK_canGo_52 D M = some R) : sm_WJ smT smCl smSa shC f101 2 52 [g0, g1] [] D M R := by
  have e : jK_canGo_52 D M = (sm_run shC smSa cal101 c101 true (fun a D M => some (a, D, M)) (lf101_52 D) 33 (c101.drop 26) [g0, g1] [] D M : Option (sm_S)) := rfl
  exact sm_blk (ρ := sm_S) (gd := (fun v => v = R)) (kx := 101) (i := 26) smVC rfl (by decide) ck101 (fun a D M v e1 e2 => by cases e1; exact e2.symm) (ll101_52 D) rfl (e.symm.trans h) rfl
noncomputable def lf101_0 (D : sm_D) : Nat → List Value → List Value → sm_D → sm_M → Option (sm_S) := fun pc ls st D' M =>
  if pc = 52 then (match ls, st with
    | [gl0, gl1], [] => (jK_canGo_52 D' M)
    | _, _ => none)
  else if pc = 53 then (match ls, st with
    | [gl0, gl1], [.int bs0] => (jK_canGo_53 bs0 D' M)
    | _, _ => none)
  else none
theorem ll101_0 (D : sm_D) {R : sm_S} : ∀ (pc : Nat) (ls st : List Value) (D' : sm_D) (M : sm_M) (v : sm_S), (lf101_0 D) pc ls st D' M = some v → (fun v => v = R) v → sm_WJ smT smCl smSa shC f101 2 pc ls st D' M R := by
  intro pc ls st D' M v h hv
  unfold lf101_0 at h
  by_cases hp0 : pc = 52
  · subst hp0
    rw [if_pos (show (52 : Nat) = 52 from rfl)] at h
    split at h
    · skip
      have hv : v = R := hv
      subst hv
      exact w101_52  h
    · cases h
  · rw [if_neg hp0] at h
    by_cases hp0 : pc = 53
    · subst hp0
      rw [if_pos (show (53 : Nat) = 53 from rfl)] at h
      split at h
      · skip
        have hv : v = R := hv
        subst hv
        exact w101_53  h
      · cases h
    · rw [if_neg hp0] at h
      cases h
set_option maxRecDepth 20000 in
set_option maxHeartbeats 4000000 in
theorem we101 {l1 : Int32} {D : sm_D} {M : sm_M} {R : sm_S} (h : jK_canGo l1 D M = some R) : sm_WJ smT smCl smSa shC f101 2 0 [.ref 31, .int l1] [] D M R := by
  have e : jK_canGo l1 D M = (sm_run shC smSa cal101 c101 true (fun a D M => some (a, D, M)) (lf101_0 D) 33 (c101.drop 0) [.ref 31, .int l1] [] D M : Option (sm_S)) := rfl
  exact sm_blk (ρ := sm_S) (gd := (fun v => v = R)) (kx := 101) (i := 0) smVC rfl (by decide) ck101 (fun a D M v e1 e2 => by cases e1; exact e2.symm) (ll101_0 D) rfl (e.symm.trans h) rfl
theorem m101 {l1 : Int32} {D : sm_D} {M : sm_M} {R : sm_S} (h : jK_canGo l1 D M = some R) : sm_MJ smT smCl smSa shC f101 2 [.ref 31, .int l1] D M R :=
  sm_met (by decide) (Nat.le_of_ble_eq_true rfl) (List.all_eq_true.mp rfl) (we101  h)

-- jK_isRight
noncomputable def cal93  : sm_Cal := fun x as D M =>
  if x = 94 then (match as with
    | [.ref 31, .int a1, .int a2] => (jK_gets a1 a2 D M)
    | _ => none)
  else if x = 159 then (match as with
    | [.ref 1, .int a1, .int a2, .int a3, .int a4] => (jT_find a1 a2 a3 a4 D M)
    | _ => none)
  else if x = 152 then (match as with
    | [.ref 1, .int a1] => (jT_kindOf a1 D M)
    | _ => none)
  else if x = 153 then (match as with
    | [.ref 1, .int a1] => (jT_firstOf a1 D M)
    | _ => none)
  else if x = 154 then (match as with
    | [.ref 1, .int a1] => (jT_secondOf a1 D M)
    | _ => none)
  else if x = 104 then (match as with
    | [.ref q0, .int a1] => (sm_ga [q0] gC (jC_hasBlock q0 a1 D M))
    | _ => none)
  else if x = 95 then (match as, D with
    | [.ref 31, .int a1], [e0, e1, e2, e3, e4] => (sm_ga [e3] gC (jK_typeOfBlock e0 e1 e2 e3 e4 a1 M))
    | _, _ => none)
  else if x = 97 then (match as with
    | [.ref 31, .int a1, .int a2] => (jK_canWrap a1 a2 D M)
    | _ => none)
  else if x = 99 then (match as with
    | [.ref 31, .int a1, .int a2, .int a3] => (jK_opens a1 a2 a3 D M)
    | _ => none)
  else if x = 100 then (match as, D with
    | [.ref 31, .int a1], [e0, e1, e2, e3, e4] => (sm_ga [e3] gC (jK_canEnter e0 e1 e2 e3 e4 a1 M))
    | _, _ => none)
  else if x = 101 then (match as with
    | [.ref 31, .int a1] => (jK_canGo a1 D M)
    | _ => none)
  else none
theorem ck93  : sm_CalOk smT smCl smP smSa shC 4 cal93 := by
  intro x g as D M R hx h
  unfold cal93 at h
  by_cases hx' : x = 94
  · subst hx'
    rw [if_pos (show (94 : Nat) = 94 from rfl)] at h
    cases (show smP[94]? = some f94 from rfl).symm.trans hx
    split at h
    · skip
      exact Or.inl ⟨0, by omega, m94   h⟩
    · cases h
  · rw [if_neg hx'] at h
    by_cases hx' : x = 159
    · subst hx'
      rw [if_pos (show (159 : Nat) = 159 from rfl)] at h
      cases (show smP[159]? = some f159 from rfl).symm.trans hx
      split at h
      · skip
        exact Or.inl ⟨1, by omega, m159   h⟩
      · cases h
    · rw [if_neg hx'] at h
      by_cases hx' : x = 152
      · subst hx'
        rw [if_pos (show (152 : Nat) = 152 from rfl)] at h
        cases (show smP[152]? = some f152 from rfl).symm.trans hx
        split at h
        · skip
          exact Or.inl ⟨1, by omega, m152   h⟩
        · cases h
      · rw [if_neg hx'] at h
        by_cases hx' : x = 153
        · subst hx'
          rw [if_pos (show (153 : Nat) = 153 from rfl)] at h
          cases (show smP[153]? = some f153 from rfl).symm.trans hx
          split at h
          · skip
            exact Or.inl ⟨1, by omega, m153   h⟩
          · cases h
        · rw [if_neg hx'] at h
          by_cases hx' : x = 154
          · subst hx'
            rw [if_pos (show (154 : Nat) = 154 from rfl)] at h
            cases (show smP[154]? = some f154 from rfl).symm.trans hx
            split at h
            · skip
              exact Or.inl ⟨1, by omega, m154   h⟩
            · cases h
          · rw [if_neg hx'] at h
            by_cases hx' : x = 104
            · subst hx'
              rw [if_pos (show (104 : Nat) = 104 from rfl)] at h
              cases (show smP[104]? = some f104 from rfl).symm.trans hx
              split at h
              · replace h := sm_ga_inv h
                obtain ⟨h1, h⟩ := h
                exact Or.inl ⟨0, by omega, m104  h1 h⟩
              · cases h
            · rw [if_neg hx'] at h
              by_cases hx' : x = 95
              · subst hx'
                rw [if_pos (show (95 : Nat) = 95 from rfl)] at h
                cases (show smP[95]? = some f95 from rfl).symm.trans hx
                split at h
                · replace h := sm_ga_inv h
                  obtain ⟨h1, h⟩ := h
                  exact Or.inl ⟨2, by omega, m95  h1 h⟩
                · cases h
              · rw [if_neg hx'] at h
                by_cases hx' : x = 97
                · subst hx'
                  rw [if_pos (show (97 : Nat) = 97 from rfl)] at h
                  cases (show smP[97]? = some f97 from rfl).symm.trans hx
                  split at h
                  · skip
                    exact Or.inl ⟨3, by omega, m97   h⟩
                  · cases h
                · rw [if_neg hx'] at h
                  by_cases hx' : x = 99
                  · subst hx'
                    rw [if_pos (show (99 : Nat) = 99 from rfl)] at h
                    cases (show smP[99]? = some f99 from rfl).symm.trans hx
                    split at h
                    · skip
                      exact Or.inl ⟨3, by omega, m99   h⟩
                    · cases h
                  · rw [if_neg hx'] at h
                    by_cases hx' : x = 100
                    · subst hx'
                      rw [if_pos (show (100 : Nat) = 100 from rfl)] at h
                      cases (show smP[100]? = some f100 from rfl).symm.trans hx
                      split at h
                      · replace h := sm_ga_inv h
                        obtain ⟨h1, h⟩ := h
                        exact Or.inl ⟨2, by omega, m100  h1 h⟩
                      · cases h
                    · rw [if_neg hx'] at h
                      by_cases hx' : x = 101
                      · subst hx'
                        rw [if_pos (show (101 : Nat) = 101 from rfl)] at h
                        cases (show smP[101]? = some f101 from rfl).symm.trans hx
                        split at h
                        · skip
                          exact Or.inl ⟨2, by omega, m101   h⟩
                        · cases h
                      · rw [if_neg hx'] at h
                        cases h
set_option maxRecDepth 20000 in
set_option maxHeartbeats 4000000 in
theorem w93_144 (d0 d1 d2 d3 d4 : Nat) (hd3 : [d3] ∈ gC) {s0 : Int32} {g0 g1 g2 g3 g4 : Value} {M : sm_M} {R : sm_S} (h : jK_isRight_144 d0 d1 d2 d3 d4 s0 M = some R) : sm_WJ smT smCl smSa shC f93 4 144 [g0, g1, g2, g3, g4] [.int s0] [d0, d1, d2, d3, d4] M R := by
  rcases gC_inv hd3 with rfl | rfl
  · have e : jK_isRight_144 d0 d1 d2 40 d4 s0 M = (sm_run shC smSa cal93 c93 true (fun a D M => some (a, D, M)) sm_noleaf 208 (c93.drop 47) [g0, g1, g2, g3, g4] [.int s0] [d0, d1, d2, 40, d4] M : Option (sm_S)) := rfl
    exact sm_blk (ρ := sm_S) (gd := (fun v => v = R)) (kx := 93) (i := 47) smVC rfl (by decide) ck93 (fun a D M v e1 e2 => by cases e1; exact e2.symm) (sm_noleaf_ok) rfl (e.symm.trans h) rfl
  · have e : jK_isRight_144 d0 d1 d2 50 d4 s0 M = (sm_run shC smSa cal93 c93 true (fun a D M => some (a, D, M)) sm_noleaf 208 (c93.drop 47) [g0, g1, g2, g3, g4] [.int s0] [d0, d1, d2, 50, d4] M : Option (sm_S)) := rfl
    exact sm_blk (ρ := sm_S) (gd := (fun v => v = R)) (kx := 93) (i := 47) smVC rfl (by decide) ck93 (fun a D M v e1 e2 => by cases e1; exact e2.symm) (sm_noleaf_ok) rfl (e.symm.trans h) rfl
noncomputable def lf93_143 (d0 d1 d2 d3 d4 : Nat) : Nat → List Value → List Value → sm_D → sm_M → Option (sm_S) := fun pc ls st D' M =>
  if pc = 144 then (match ls, st with
    | [gl0, gl1, gl2, gl3, gl4], [.int bs0] => (sm_dq D' [d0, d1, d2, d3, d4] (jK_isRight_144 d0 d1 d2 d3 d4 bs0 M))
    | _, _ => none)
  else none
theorem ll93_143 (d0 d1 d2 d3 d4 : Nat) (hd3 : [d3] ∈ gC) {R : sm_S} : ∀ (pc : Nat) (ls st : List Value) (D' : sm_D) (M : sm_M) (v : sm_S), (lf93_143 d0 d1 d2 d3 d4) pc ls st D' M = some v → (fun v => v = R) v → sm_WJ smT smCl smSa shC f93 4 pc ls st D' M R := by
  intro pc ls st D' M v h hv
  unfold lf93_143 at h
  by_cases hp0 : pc = 144
  · subst hp0
    rw [if_pos (show (144 : Nat) = 144 from rfl)] at h
    split at h
    · skip
      replace h := sm_dq_inv h
      obtain ⟨he, h⟩ := h
      subst he
      have hv : v = R := hv
      subst hv
      exact w93_144 _ _ _ _ _ hd3 h
    · cases h
  · rw [if_neg hp0] at h
    cases h
set_option maxRecDepth 20000 in
set_option maxHeartbeats 4000000 in
theorem w93_143 (d0 d1 d2 d3 d4 : Nat) (hd3 : [d3] ∈ gC) {g0 g1 g2 g3 g4 : Value} {M : sm_M} {R : sm_S} (h : jK_isRight_143 d0 d1 d2 d3 d4 M = some R) : sm_WJ smT smCl smSa shC f93 4 143 [g0, g1, g2, g3, g4] [] [d0, d1, d2, d3, d4] M R := by
  rcases gC_inv hd3 with rfl | rfl
  · have e : jK_isRight_143 d0 d1 d2 40 d4 M = (sm_run shC smSa cal93 c93 true (fun a D M => some (a, D, M)) (lf93_143 d0 d1 d2 40 d4) 208 (c93.drop 46) [g0, g1, g2, g3, g4] [] [d0, d1, d2, 40, d4] M : Option (sm_S)) := rfl
    exact sm_blk (ρ := sm_S) (gd := (fun v => v = R)) (kx := 93) (i := 46) smVC rfl (by decide) ck93 (fun a D M v e1 e2 => by cases e1; exact e2.symm) (ll93_143 d0 d1 d2 40 d4 (by decide)) rfl (e.symm.trans h) rfl
  · have e : jK_isRight_143 d0 d1 d2 50 d4 M = (sm_run shC smSa cal93 c93 true (fun a D M => some (a, D, M)) (lf93_143 d0 d1 d2 50 d4) 208 (c93.drop 46) [g0, g1, g2, g3, g4] [] [d0, d1, d2, 50, d4] M : Option (sm_S)) := rfl
    exact sm_blk (ρ := sm_S) (gd := (fun v => v = R)) (kx := 93) (i := 46) smVC rfl (by decide) ck93 (fun a D M v e1 e2 => by cases e1; exact e2.symm) (ll93_143 d0 d1 d2 50 d4 (by decide)) rfl (e.symm.trans h) rfl
noncomputable def lf93_111 (d0 d1 d2 d3 d4 : Nat) : Nat → List Value → List Value → sm_D → sm_M → Option (sm_S) := fun pc ls st D' M =>
  if pc = 143 then (match ls, st with
    | [gl0, gl1, gl2, gl3, gl4], [] => (sm_dq D' [d0, d1, d2, d3, d4] (jK_isRight_143 d0 d1 d2 d3 d4 M))
    | _, _ => none)
  else if pc = 144 then (match ls, st with
    | [gl0, gl1, gl2, gl3, gl4], [.int bs0] => (sm_dq D' [d0, d1, d2, d3, d4] (jK_isRight_144 d0 d1 d2 d3 d4 bs0 M))
    | _, _ => none)
  else none
theorem ll93_111 (d0 d1 d2 d3 d4 : Nat) (hd3 : [d3] ∈ gC) {R : sm_S} : ∀ (pc : Nat) (ls st : List Value) (D' : sm_D) (M : sm_M) (v : sm_S), (lf93_111 d0 d1 d2 d3 d4) pc ls st D' M = some v → (fun v => v = R) v → sm_WJ smT smCl smSa shC f93 4 pc ls st D' M R := by
  intro pc ls st D' M v h hv
  unfold lf93_111 at h
  by_cases hp0 : pc = 143
  · subst hp0
    rw [if_pos (show (143 : Nat) = 143 from rfl)] at h
    split at h
    · skip
      replace h := sm_dq_inv h
      obtain ⟨he, h⟩ := h
      subst he
      have hv : v = R := hv
      subst hv
      exact w93_143 _ _ _ _ _ hd3 h
    · cases h
  · rw [if_neg hp0] at h
    by_cases hp0 : pc = 144
    · subst hp0
      rw [if_pos (show (144 : Nat) = 144 from rfl)] at h
      split at h
      · skip
        replace h := sm_dq_inv h
        obtain ⟨he, h⟩ := h
        subst he
        have hv : v = R := hv
        subst hv
        exact w93_144 _ _ _ _ _ hd3 h
      · cases h
    · rw [if_neg hp0] at h
      cases h
set_option maxRecDepth 20000 in
set_option maxHeartbeats 4000000 in
theorem w93_111 (d0 d1 d2 d3 d4 : Nat) (hd3 : [d3] ∈ gC) {l2 l3 l4 : Int32} {g1 : Value} {M : sm_M} {R : sm_S} (h : jK_isRight_111 d0 d1 d2 d3 d4 l2 l3 l4 M = some R) : sm_WJ smT smCl smSa shC f93 4 111 [.ref 31, g1, .int l2, .int l3, .int l4] [] [d0, d1, d2, d3, d4] M R := by
  rcases gC_inv hd3 with rfl | rfl
  · have e : jK_isRight_111 d0 d1 d2 40 d4 l2 l3 l4 M = (sm_run shC smSa cal93 c93 true (fun a D M => some (a, D, M)) (lf93_111 d0 d1 d2 40 d4) 208 (c93.drop 29) [.ref 31, g1, .int l2, .int l3, .int l4] [] [d0, d1, d2, 40, d4] M : Option (sm_S)) := rfl
    exact sm_blk (ρ := sm_S) (gd := (fun v => v = R)) (kx := 93) (i := 29) smVC rfl (by decide) ck93 (fun a D M v e1 e2 => by cases e1; exact e2.symm) (ll93_111 d0 d1 d2 40 d4 (by decide)) rfl (e.symm.trans h) rfl
  · have e : jK_isRight_111 d0 d1 d2 50 d4 l2 l3 l4 M = (sm_run shC smSa cal93 c93 true (fun a D M => some (a, D, M)) (lf93_111 d0 d1 d2 50 d4) 208 (c93.drop 29) [.ref 31, g1, .int l2, .int l3, .int l4] [] [d0, d1, d2, 50, d4] M : Option (sm_S)) := rfl
    exact sm_blk (ρ := sm_S) (gd := (fun v => v = R)) (kx := 93) (i := 29) smVC rfl (by decide) ck93 (fun a D M v e1 e2 => by cases e1; exact e2.symm) (ll93_111 d0 d1 d2 50 d4 (by decide)) rfl (e.symm.trans h) rfl
set_option maxRecDepth 20000 in
set_option maxHeartbeats 4000000 in
theorem w93_201 (d0 d1 d2 d3 d4 : Nat) (hd3 : [d3] ∈ gC) {s0 : Int32} {g0 g1 g2 g3 g4 : Value} {M : sm_M} {R : sm_S} (h : jK_isRight_201 d0 d1 d2 d3 d4 s0 M = some R) : sm_WJ smT smCl smSa shC f93 4 201 [g0, g1, g2, g3, g4] [.int s0] [d0, d1, d2, d3, d4] M R := by
  rcases gC_inv hd3 with rfl | rfl
  · have e : jK_isRight_201 d0 d1 d2 40 d4 s0 M = (sm_run shC smSa cal93 c93 true (fun a D M => some (a, D, M)) sm_noleaf 208 (c93.drop 80) [g0, g1, g2, g3, g4] [.int s0] [d0, d1, d2, 40, d4] M : Option (sm_S)) := rfl
    exact sm_blk (ρ := sm_S) (gd := (fun v => v = R)) (kx := 93) (i := 80) smVC rfl (by decide) ck93 (fun a D M v e1 e2 => by cases e1; exact e2.symm) (sm_noleaf_ok) rfl (e.symm.trans h) rfl
  · have e : jK_isRight_201 d0 d1 d2 50 d4 s0 M = (sm_run shC smSa cal93 c93 true (fun a D M => some (a, D, M)) sm_noleaf 208 (c93.drop 80) [g0, g1, g2, g3, g4] [.int s0] [d0, d1, d2, 50, d4] M : Option (sm_S)) := rfl
    exact sm_blk (ρ := sm_S) (gd := (fun v => v = R)) (kx := 93) (i := 80) smVC rfl (by decide) ck93 (fun a D M v e1 e2 => by cases e1; exact e2.symm) (sm_noleaf_ok) rfl (e.symm.trans h) rfl
noncomputable def lf93_200 (d0 d1 d2 d3 d4 : Nat) : Nat → List Value → List Value → sm_D → sm_M → Option (sm_S) := fun pc ls st D' M =>
  if pc = 201 then (match ls, st with
    | [gl0, gl1, gl2, gl3, gl4], [.int bs0] => (sm_dq D' [d0, d1, d2, d3, d4] (jK_isRight_201 d0 d1 d2 d3 d4 bs0 M))
    | _, _ => none)
  else none
theorem ll93_200 (d0 d1 d2 d3 d4 : Nat) (hd3 : [d3] ∈ gC) {R : sm_S} : ∀ (pc : Nat) (ls st : List Value) (D' : sm_D) (M : sm_M) (v : sm_S), (lf93_200 d0 d1 d2 d3 d4) pc ls st D' M = some v → (fun v => v = R) v → sm_WJ smT smCl smSa shC f93 4 pc ls st D' M R := by
  intro pc ls st D' M v h hv
  unfold lf93_200 at h
  by_cases hp0 : pc = 201
  · subst hp0
    rw [if_pos (show (201 : Nat) = 201 from rfl)] at h
    split at h
    · skip
      replace h := sm_dq_inv h
      obtain ⟨he, h⟩ := h
      subst he
      have hv : v = R := hv
      subst hv
      exact w93_201 _ _ _ _ _ hd3 h
    · cases h
  · rw [if_neg hp0] at h
    cases h
set_option maxRecDepth 20000 in
set_option maxHeartbeats 4000000 in
theorem w93_200 (d0 d1 d2 d3 d4 : Nat) (hd3 : [d3] ∈ gC) {g0 g1 g2 g3 g4 : Value} {M : sm_M} {R : sm_S} (h : jK_isRight_200 d0 d1 d2 d3 d4 M = some R) : sm_WJ smT smCl smSa shC f93 4 200 [g0, g1, g2, g3, g4] [] [d0, d1, d2, d3, d4] M R := by
  rcases gC_inv hd3 with rfl | rfl
  · have e : jK_isRight_200 d0 d1 d2 40 d4 M = (sm_run shC smSa cal93 c93 true (fun a D M => some (a, D, M)) (lf93_200 d0 d1 d2 40 d4) 208 (c93.drop 79) [g0, g1, g2, g3, g4] [] [d0, d1, d2, 40, d4] M : Option (sm_S)) := rfl
    exact sm_blk (ρ := sm_S) (gd := (fun v => v = R)) (kx := 93) (i := 79) smVC rfl (by decide) ck93 (fun a D M v e1 e2 => by cases e1; exact e2.symm) (ll93_200 d0 d1 d2 40 d4 (by decide)) rfl (e.symm.trans h) rfl
  · have e : jK_isRight_200 d0 d1 d2 50 d4 M = (sm_run shC smSa cal93 c93 true (fun a D M => some (a, D, M)) (lf93_200 d0 d1 d2 50 d4) 208 (c93.drop 79) [g0, g1, g2, g3, g4] [] [d0, d1, d2, 50, d4] M : Option (sm_S)) := rfl
    exact sm_blk (ρ := sm_S) (gd := (fun v => v = R)) (kx := 93) (i := 79) smVC rfl (by decide) ck93 (fun a D M v e1 e2 => by cases e1; exact e2.symm) (ll93_200 d0 d1 d2 50 d4 (by decide)) rfl (e.symm.trans h) rfl
set_option maxRecDepth 20000 in
set_option maxHeartbeats 4000000 in
theorem w93_266 (d0 d1 d2 d3 d4 : Nat) (hd3 : [d3] ∈ gC) {s0 : Int32} {g0 g1 g2 g3 g4 : Value} {M : sm_M} {R : sm_S} (h : jK_isRight_266 d0 d1 d2 d3 d4 s0 M = some R) : sm_WJ smT smCl smSa shC f93 4 266 [g0, g1, g2, g3, g4] [.int s0] [d0, d1, d2, d3, d4] M R := by
  rcases gC_inv hd3 with rfl | rfl
  · have e : jK_isRight_266 d0 d1 d2 40 d4 s0 M = (sm_run shC smSa cal93 c93 true (fun a D M => some (a, D, M)) sm_noleaf 208 (c93.drop 114) [g0, g1, g2, g3, g4] [.int s0] [d0, d1, d2, 40, d4] M : Option (sm_S)) := rfl
    exact sm_blk (ρ := sm_S) (gd := (fun v => v = R)) (kx := 93) (i := 114) smVC rfl (by decide) ck93 (fun a D M v e1 e2 => by cases e1; exact e2.symm) (sm_noleaf_ok) rfl (e.symm.trans h) rfl
  · have e : jK_isRight_266 d0 d1 d2 50 d4 s0 M = (sm_run shC smSa cal93 c93 true (fun a D M => some (a, D, M)) sm_noleaf 208 (c93.drop 114) [g0, g1, g2, g3, g4] [.int s0] [d0, d1, d2, 50, d4] M : Option (sm_S)) := rfl
    exact sm_blk (ρ := sm_S) (gd := (fun v => v = R)) (kx := 93) (i := 114) smVC rfl (by decide) ck93 (fun a D M v e1 e2 => by cases e1; exact e2.symm) (sm_noleaf_ok) rfl (e.symm.trans h) rfl
noncomputable def lf93_265 (d0 d1 d2 d3 d4 : Nat) : Nat → List Value → List Value → sm_D → sm_M → Option (sm_S) := fun pc ls st D' M =>
  if pc = 266 then (match ls, st with
    | [gl0, gl1, gl2, gl3, gl4], [.int bs0] => (sm_dq D' [d0, d1, d2, d3, d4] (jK_isRight_266 d0 d1 d2 d3 d4 bs0 M))
    | _, _ => none)
  else none
theorem ll93_265 (d0 d1 d2 d3 d4 : Nat) (hd3 : [d3] ∈ gC) {R : sm_S} : ∀ (pc : Nat) (ls st : List Value) (D' : sm_D) (M : sm_M) (v : sm_S), (lf93_265 d0 d1 d2 d3 d4) pc ls st D' M = some v → (fun v => v = R) v → sm_WJ smT smCl smSa shC f93 4 pc ls st D' M R := by
  intro pc ls st D' M v h hv
  unfold lf93_265 at h
  by_cases hp0 : pc = 266
  · subst hp0
    rw [if_pos (show (266 : Nat) = 266 from rfl)] at h
    split at h
    · skip
      replace h := sm_dq_inv h
      obtain ⟨he, h⟩ := h
      subst he
      have hv : v = R := hv
      subst hv
      exact w93_266 _ _ _ _ _ hd3 h
    · cases h
  · rw [if_neg hp0] at h
    cases h
set_option maxRecDepth 20000 in
set_option maxHeartbeats 4000000 in
theorem w93_265 (d0 d1 d2 d3 d4 : Nat) (hd3 : [d3] ∈ gC) {g0 g1 g2 g3 g4 : Value} {M : sm_M} {R : sm_S} (h : jK_isRight_265 d0 d1 d2 d3 d4 M = some R) : sm_WJ smT smCl smSa shC f93 4 265 [g0, g1, g2, g3, g4] [] [d0, d1, d2, d3, d4] M R := by
  rcases gC_inv hd3 with rfl | rfl
  · have e : jK_isRight_265 d0 d1 d2 40 d4 M = (sm_run shC smSa cal93 c93 true (fun a D M => some (a, D, M)) (lf93_265 d0 d1 d2 40 d4) 208 (c93.drop 113) [g0, g1, g2, g3, g4] [] [d0, d1, d2, 40, d4] M : Option (sm_S)) := rfl
    exact sm_blk (ρ := sm_S) (gd := (fun v => v = R)) (kx := 93) (i := 113) smVC rfl (by decide) ck93 (fun a D M v e1 e2 => by cases e1; exact e2.symm) (ll93_265 d0 d1 d2 40 d4 (by decide)) rfl (e.symm.trans h) rfl
  · have e : jK_isRight_265 d0 d1 d2 50 d4 M = (sm_run shC smSa cal93 c93 true (fun a D M => some (a, D, M)) (lf93_265 d0 d1 d2 50 d4) 208 (c93.drop 113) [g0, g1, g2, g3, g4] [] [d0, d1, d2, 50, d4] M : Option (sm_S)) := rfl
    exact sm_blk (ρ := sm_S) (gd := (fun v => v = R)) (kx := 93) (i := 113) smVC rfl (by decide) ck93 (fun a D M v e1 e2 => by cases e1; exact e2.symm) (ll93_265 d0 d1 d2 50 d4 (by decide)) rfl (e.symm.trans h) rfl
noncomputable def lf93_255 (d0 d1 d2 d3 d4 : Nat) : Nat → List Value → List Value → sm_D → sm_M → Option (sm_S) := fun pc ls st D' M =>
  if pc = 265 then (match ls, st with
    | [gl0, gl1, gl2, gl3, gl4], [] => (sm_dq D' [d0, d1, d2, d3, d4] (jK_isRight_265 d0 d1 d2 d3 d4 M))
    | _, _ => none)
  else if pc = 266 then (match ls, st with
    | [gl0, gl1, gl2, gl3, gl4], [.int bs0] => (sm_dq D' [d0, d1, d2, d3, d4] (jK_isRight_266 d0 d1 d2 d3 d4 bs0 M))
    | _, _ => none)
  else none
theorem ll93_255 (d0 d1 d2 d3 d4 : Nat) (hd3 : [d3] ∈ gC) {R : sm_S} : ∀ (pc : Nat) (ls st : List Value) (D' : sm_D) (M : sm_M) (v : sm_S), (lf93_255 d0 d1 d2 d3 d4) pc ls st D' M = some v → (fun v => v = R) v → sm_WJ smT smCl smSa shC f93 4 pc ls st D' M R := by
  intro pc ls st D' M v h hv
  unfold lf93_255 at h
  by_cases hp0 : pc = 265
  · subst hp0
    rw [if_pos (show (265 : Nat) = 265 from rfl)] at h
    split at h
    · skip
      replace h := sm_dq_inv h
      obtain ⟨he, h⟩ := h
      subst he
      have hv : v = R := hv
      subst hv
      exact w93_265 _ _ _ _ _ hd3 h
    · cases h
  · rw [if_neg hp0] at h
    by_cases hp0 : pc = 266
    · subst hp0
      rw [if_pos (show (266 : Nat) = 266 from rfl)] at h
      split at h
      · skip
        replace h := sm_dq_inv h
        obtain ⟨he, h⟩ := h
        subst he
        have hv : v = R := hv
        subst hv
        exact w93_266 _ _ _ _ _ hd3 h
      · cases h
    · rw [if_neg hp0] at h
      cases h
set_option maxRecDepth 20000 in
set_option maxHeartbeats 4000000 in
theorem w93_255 (d0 d1 d2 d3 d4 : Nat) (hd3 : [d3] ∈ gC) {s1 s2 : Int32} {g0 g1 g2 g3 g4 : Value} {M : sm_M} {R : sm_S} (h : jK_isRight_255 d0 d1 d2 d3 d4 s1 s2 M = some R) : sm_WJ smT smCl smSa shC f93 4 255 [g0, g1, g2, g3, g4] [.int s2, .int s1, .ref 31] [d0, d1, d2, d3, d4] M R := by
  rcases gC_inv hd3 with rfl | rfl
  · have e : jK_isRight_255 d0 d1 d2 40 d4 s1 s2 M = (sm_run shC smSa cal93 c93 true (fun a D M => some (a, D, M)) (lf93_255 d0 d1 d2 40 d4) 208 (c93.drop 109) [g0, g1, g2, g3, g4] [.int s2, .int s1, .ref 31] [d0, d1, d2, 40, d4] M : Option (sm_S)) := rfl
    exact sm_blk (ρ := sm_S) (gd := (fun v => v = R)) (kx := 93) (i := 109) smVC rfl (by decide) ck93 (fun a D M v e1 e2 => by cases e1; exact e2.symm) (ll93_255 d0 d1 d2 40 d4 (by decide)) rfl (e.symm.trans h) rfl
  · have e : jK_isRight_255 d0 d1 d2 50 d4 s1 s2 M = (sm_run shC smSa cal93 c93 true (fun a D M => some (a, D, M)) (lf93_255 d0 d1 d2 50 d4) 208 (c93.drop 109) [g0, g1, g2, g3, g4] [.int s2, .int s1, .ref 31] [d0, d1, d2, 50, d4] M : Option (sm_S)) := rfl
    exact sm_blk (ρ := sm_S) (gd := (fun v => v = R)) (kx := 93) (i := 109) smVC rfl (by decide) ck93 (fun a D M v e1 e2 => by cases e1; exact e2.symm) (ll93_255 d0 d1 d2 50 d4 (by decide)) rfl (e.symm.trans h) rfl
set_option maxRecDepth 20000 in
set_option maxHeartbeats 4000000 in
theorem w93_296 (d0 d1 d2 d3 d4 : Nat) (hd3 : [d3] ∈ gC) {s0 : Int32} {g0 g1 g2 g3 g4 : Value} {M : sm_M} {R : sm_S} (h : jK_isRight_296 d0 d1 d2 d3 d4 s0 M = some R) : sm_WJ smT smCl smSa shC f93 4 296 [g0, g1, g2, g3, g4] [.int s0] [d0, d1, d2, d3, d4] M R := by
  rcases gC_inv hd3 with rfl | rfl
  · have e : jK_isRight_296 d0 d1 d2 40 d4 s0 M = (sm_run shC smSa cal93 c93 true (fun a D M => some (a, D, M)) sm_noleaf 208 (c93.drop 130) [g0, g1, g2, g3, g4] [.int s0] [d0, d1, d2, 40, d4] M : Option (sm_S)) := rfl
    exact sm_blk (ρ := sm_S) (gd := (fun v => v = R)) (kx := 93) (i := 130) smVC rfl (by decide) ck93 (fun a D M v e1 e2 => by cases e1; exact e2.symm) (sm_noleaf_ok) rfl (e.symm.trans h) rfl
  · have e : jK_isRight_296 d0 d1 d2 50 d4 s0 M = (sm_run shC smSa cal93 c93 true (fun a D M => some (a, D, M)) sm_noleaf 208 (c93.drop 130) [g0, g1, g2, g3, g4] [.int s0] [d0, d1, d2, 50, d4] M : Option (sm_S)) := rfl
    exact sm_blk (ρ := sm_S) (gd := (fun v => v = R)) (kx := 93) (i := 130) smVC rfl (by decide) ck93 (fun a D M v e1 e2 => by cases e1; exact e2.symm) (sm_noleaf_ok) rfl (e.symm.trans h) rfl
noncomputable def lf93_295 (d0 d1 d2 d3 d4 : Nat) : Nat → List Value → List Value → sm_D → sm_M → Option (sm_S) := fun pc ls st D' M =>
  if pc = 296 then (match ls, st with
    | [gl0, gl1, gl2, gl3, gl4], [.int bs0] => (sm_dq D' [d0, d1, d2, d3, d4] (jK_isRight_296 d0 d1 d2 d3 d4 bs0 M))
    | _, _ => none)
  else none
theorem ll93_295 (d0 d1 d2 d3 d4 : Nat) (hd3 : [d3] ∈ gC) {R : sm_S} : ∀ (pc : Nat) (ls st : List Value) (D' : sm_D) (M : sm_M) (v : sm_S), (lf93_295 d0 d1 d2 d3 d4) pc ls st D' M = some v → (fun v => v = R) v → sm_WJ smT smCl smSa shC f93 4 pc ls st D' M R := by
  intro pc ls st D' M v h hv
  unfold lf93_295 at h
  by_cases hp0 : pc = 296
  · subst hp0
    rw [if_pos (show (296 : Nat) = 296 from rfl)] at h
    split at h
    · skip
      replace h := sm_dq_inv h
      obtain ⟨he, h⟩ := h
      subst he
      have hv : v = R := hv
      subst hv
      exact w93_296 _ _ _ _ _ hd3 h
    · cases h
  · rw [if_neg hp0] at h
    cases h
set_option maxRecDepth 20000 in
set_option maxHeartbeats 4000000 in
theorem w93_295 (d0 d1 d2 d3 d4 : Nat) (hd3 : [d3] ∈ gC) {g0 g1 g2 g3 g4 : Value} {M : sm_M} {R : sm_S} (h : jK_isRight_295 d0 d1 d2 d3 d4 M = some R) : sm_WJ smT smCl smSa shC f93 4 295 [g0, g1, g2, g3, g4] [] [d0, d1, d2, d3, d4] M R := by
  rcases gC_inv hd3 with rfl | rfl
  · have e : jK_isRight_295 d0 d1 d2 40 d4 M = (sm_run shC smSa cal93 c93 true (fun a D M => some (a, D, M)) (lf93_295 d0 d1 d2 40 d4) 208 (c93.drop 129) [g0, g1, g2, g3, g4] [] [d0, d1, d2, 40, d4] M : Option (sm_S)) := rfl
    exact sm_blk (ρ := sm_S) (gd := (fun v => v = R)) (kx := 93) (i := 129) smVC rfl (by decide) ck93 (fun a D M v e1 e2 => by cases e1; exact e2.symm) (ll93_295 d0 d1 d2 40 d4 (by decide)) rfl (e.symm.trans h) rfl
  · have e : jK_isRight_295 d0 d1 d2 50 d4 M = (sm_run shC smSa cal93 c93 true (fun a D M => some (a, D, M)) (lf93_295 d0 d1 d2 50 d4) 208 (c93.drop 129) [g0, g1, g2, g3, g4] [] [d0, d1, d2, 50, d4] M : Option (sm_S)) := rfl
    exact sm_blk (ρ := sm_S) (gd := (fun v => v = R)) (kx := 93) (i := 129) smVC rfl (by decide) ck93 (fun a D M v e1 e2 => by cases e1; exact e2.symm) (ll93_295 d0 d1 d2 50 d4 (by decide)) rfl (e.symm.trans h) rfl
set_option maxRecDepth 20000 in
set_option maxHeartbeats 4000000 in
theorem w93_327 (d0 d1 d2 d3 d4 : Nat) (hd3 : [d3] ∈ gC) {s0 : Int32} {g0 g1 g2 g3 g4 : Value} {M : sm_M} {R : sm_S} (h : jK_isRight_327 d0 d1 d2 d3 d4 s0 M = some R) : sm_WJ smT smCl smSa shC f93 4 327 [g0, g1, g2, g3, g4] [.int s0] [d0, d1, d2, d3, d4] M R := by
  rcases gC_inv hd3 with rfl | rfl
  · have e : jK_isRight_327 d0 d1 d2 40 d4 s0 M = (sm_run shC smSa cal93 c93 true (fun a D M => some (a, D, M)) sm_noleaf 208 (c93.drop 147) [g0, g1, g2, g3, g4] [.int s0] [d0, d1, d2, 40, d4] M : Option (sm_S)) := rfl
    exact sm_blk (ρ := sm_S) (gd := (fun v => v = R)) (kx := 93) (i := 147) smVC rfl (by decide) ck93 (fun a D M v e1 e2 => by cases e1; exact e2.symm) (sm_noleaf_ok) rfl (e.symm.trans h) rfl
  · have e : jK_isRight_327 d0 d1 d2 50 d4 s0 M = (sm_run shC smSa cal93 c93 true (fun a D M => some (a, D, M)) sm_noleaf 208 (c93.drop 147) [g0, g1, g2, g3, g4] [.int s0] [d0, d1, d2, 50, d4] M : Option (sm_S)) := rfl
    exact sm_blk (ρ := sm_S) (gd := (fun v => v = R)) (kx := 93) (i := 147) smVC rfl (by decide) ck93 (fun a D M v e1 e2 => by cases e1; exact e2.symm) (sm_noleaf_ok) rfl (e.symm.trans h) rfl
noncomputable def lf93_326 (d0 d1 d2 d3 d4 : Nat) : Nat → List Value → List Value → sm_D → sm_M → Option (sm_S) := fun pc ls st D' M =>
  if pc = 327 then (match ls, st with
    | [gl0, gl1, gl2, gl3, gl4], [.int bs0] => (sm_dq D' [d0, d1, d2, d3, d4] (jK_isRight_327 d0 d1 d2 d3 d4 bs0 M))
    | _, _ => none)
  else none
theorem ll93_326 (d0 d1 d2 d3 d4 : Nat) (hd3 : [d3] ∈ gC) {R : sm_S} : ∀ (pc : Nat) (ls st : List Value) (D' : sm_D) (M : sm_M) (v : sm_S), (lf93_326 d0 d1 d2 d3 d4) pc ls st D' M = some v → (fun v => v = R) v → sm_WJ smT smCl smSa shC f93 4 pc ls st D' M R := by
  intro pc ls st D' M v h hv
  unfold lf93_326 at h
  by_cases hp0 : pc = 327
  · subst hp0
    rw [if_pos (show (327 : Nat) = 327 from rfl)] at h
    split at h
    · skip
      replace h := sm_dq_inv h
      obtain ⟨he, h⟩ := h
      subst he
      have hv : v = R := hv
      subst hv
      exact w93_327 _ _ _ _ _ hd3 h
    · cases h
  · rw [if_neg hp0] at h
    cases h
set_option maxRecDepth 20000 in
set_option maxHeartbeats 4000000 in
theorem w93_326 (d0 d1 d2 d3 d4 : Nat) (hd3 : [d3] ∈ gC) {g0 g1 g2 g3 g4 : Value} {M : sm_M} {R : sm_S} (h : jK_isRight_326 d0 d1 d2 d3 d4 M = some R) : sm_WJ smT smCl smSa shC f93 4 326 [g0, g1, g2, g3, g4] [] [d0, d1, d2, d3, d4] M R := by
  rcases gC_inv hd3 with rfl | rfl
  · have e : jK_isRight_326 d0 d1 d2 40 d4 M = (sm_run shC smSa cal93 c93 true (fun a D M => some (a, D, M)) (lf93_326 d0 d1 d2 40 d4) 208 (c93.drop 146) [g0, g1, g2, g3, g4] [] [d0, d1, d2, 40, d4] M : Option (sm_S)) := rfl
    exact sm_blk (ρ := sm_S) (gd := (fun v => v = R)) (kx := 93) (i := 146) smVC rfl (by decide) ck93 (fun a D M v e1 e2 => by cases e1; exact e2.symm) (ll93_326 d0 d1 d2 40 d4 (by decide)) rfl (e.symm.trans h) rfl
  · have e : jK_isRight_326 d0 d1 d2 50 d4 M = (sm_run shC smSa cal93 c93 true (fun a D M => some (a, D, M)) (lf93_326 d0 d1 d2 50 d4) 208 (c93.drop 146) [g0, g1, g2, g3, g4] [] [d0, d1, d2, 50, d4] M : Option (sm_S)) := rfl
    exact sm_blk (ρ := sm_S) (gd := (fun v => v = R)) (kx := 93) (i := 146) smVC rfl (by decide) ck93 (fun a D M v e1 e2 => by cases e1; exact e2.symm) (ll93_326 d0 d1 d2 50 d4 (by decide)) rfl (e.symm.trans h) rfl
set_option maxRecDepth 20000 in
set_option maxHeartbeats 4000000 in
theorem w93_370 (d0 d1 d2 d3 d4 : Nat) (hd3 : [d3] ∈ gC) {s0 : Int32} {g0 g1 g2 g3 g4 : Value} {M : sm_M} {R : sm_S} (h : jK_isRight_370 d0 d1 d2 d3 d4 s0 M = some R) : sm_WJ smT smCl smSa shC f93 4 370 [g0, g1, g2, g3, g4] [.int s0] [d0, d1, d2, d3, d4] M R := by
  rcases gC_inv hd3 with rfl | rfl
  · have e : jK_isRight_370 d0 d1 d2 40 d4 s0 M = (sm_run shC smSa cal93 c93 true (fun a D M => some (a, D, M)) sm_noleaf 208 (c93.drop 173) [g0, g1, g2, g3, g4] [.int s0] [d0, d1, d2, 40, d4] M : Option (sm_S)) := rfl
    exact sm_blk (ρ := sm_S) (gd := (fun v => v = R)) (kx := 93) (i := 173) smVC rfl (by decide) ck93 (fun a D M v e1 e2 => by cases e1; exact e2.symm) (sm_noleaf_ok) rfl (e.symm.trans h) rfl
  · have e : jK_isRight_370 d0 d1 d2 50 d4 s0 M = (sm_run shC smSa cal93 c93 true (fun a D M => some (a, D, M)) sm_noleaf 208 (c93.drop 173) [g0, g1, g2, g3, g4] [.int s0] [d0, d1, d2, 50, d4] M : Option (sm_S)) := rfl
    exact sm_blk (ρ := sm_S) (gd := (fun v => v = R)) (kx := 93) (i := 173) smVC rfl (by decide) ck93 (fun a D M v e1 e2 => by cases e1; exact e2.symm) (sm_noleaf_ok) rfl (e.symm.trans h) rfl
noncomputable def lf93_369 (d0 d1 d2 d3 d4 : Nat) : Nat → List Value → List Value → sm_D → sm_M → Option (sm_S) := fun pc ls st D' M =>
  if pc = 370 then (match ls, st with
    | [gl0, gl1, gl2, gl3, gl4], [.int bs0] => (sm_dq D' [d0, d1, d2, d3, d4] (jK_isRight_370 d0 d1 d2 d3 d4 bs0 M))
    | _, _ => none)
  else none
theorem ll93_369 (d0 d1 d2 d3 d4 : Nat) (hd3 : [d3] ∈ gC) {R : sm_S} : ∀ (pc : Nat) (ls st : List Value) (D' : sm_D) (M : sm_M) (v : sm_S), (lf93_369 d0 d1 d2 d3 d4) pc ls st D' M = some v → (fun v => v = R) v → sm_WJ smT smCl smSa shC f93 4 pc ls st D' M R := by
  intro pc ls st D' M v h hv
  unfold lf93_369 at h
  by_cases hp0 : pc = 370
  · subst hp0
    rw [if_pos (show (370 : Nat) = 370 from rfl)] at h
    split at h
    · skip
      replace h := sm_dq_inv h
      obtain ⟨he, h⟩ := h
      subst he
      have hv : v = R := hv
      subst hv
      exact w93_370 _ _ _ _ _ hd3 h
    · cases h
  · rw [if_neg hp0] at h
    cases h
set_option maxRecDepth 20000 in
set_option maxHeartbeats 4000000 in
theorem w93_369 (d0 d1 d2 d3 d4 : Nat) (hd3 : [d3] ∈ gC) {g0 g1 g2 g3 g4 : Value} {M : sm_M} {R : sm_S} (h : jK_isRight_369 d0 d1 d2 d3 d4 M = some R) : sm_WJ smT smCl smSa shC f93 4 369 [g0, g1, g2, g3, g4] [] [d0, d1, d2, d3, d4] M R := by
  rcases gC_inv hd3 with rfl | rfl
  · have e : jK_isRight_369 d0 d1 d2 40 d4 M = (sm_run shC smSa cal93 c93 true (fun a D M => some (a, D, M)) (lf93_369 d0 d1 d2 40 d4) 208 (c93.drop 172) [g0, g1, g2, g3, g4] [] [d0, d1, d2, 40, d4] M : Option (sm_S)) := rfl
    exact sm_blk (ρ := sm_S) (gd := (fun v => v = R)) (kx := 93) (i := 172) smVC rfl (by decide) ck93 (fun a D M v e1 e2 => by cases e1; exact e2.symm) (ll93_369 d0 d1 d2 40 d4 (by decide)) rfl (e.symm.trans h) rfl
  · have e : jK_isRight_369 d0 d1 d2 50 d4 M = (sm_run shC smSa cal93 c93 true (fun a D M => some (a, D, M)) (lf93_369 d0 d1 d2 50 d4) 208 (c93.drop 172) [g0, g1, g2, g3, g4] [] [d0, d1, d2, 50, d4] M : Option (sm_S)) := rfl
    exact sm_blk (ρ := sm_S) (gd := (fun v => v = R)) (kx := 93) (i := 172) smVC rfl (by decide) ck93 (fun a D M v e1 e2 => by cases e1; exact e2.symm) (ll93_369 d0 d1 d2 50 d4 (by decide)) rfl (e.symm.trans h) rfl
set_option maxRecDepth 20000 in
set_option maxHeartbeats 4000000 in
theorem w93_406 (d0 d1 d2 d3 d4 : Nat) (hd3 : [d3] ∈ gC) {s0 : Int32} {g0 g1 g2 g3 g4 : Value} {M : sm_M} {R : sm_S} (h : jK_isRight_406 d0 d1 d2 d3 d4 s0 M = some R) : sm_WJ smT smCl smSa shC f93 4 406 [g0, g1, g2, g3, g4] [.int s0] [d0, d1, d2, d3, d4] M R := by
  rcases gC_inv hd3 with rfl | rfl
  · have e : jK_isRight_406 d0 d1 d2 40 d4 s0 M = (sm_run shC smSa cal93 c93 true (fun a D M => some (a, D, M)) sm_noleaf 208 (c93.drop 193) [g0, g1, g2, g3, g4] [.int s0] [d0, d1, d2, 40, d4] M : Option (sm_S)) := rfl
    exact sm_blk (ρ := sm_S) (gd := (fun v => v = R)) (kx := 93) (i := 193) smVC rfl (by decide) ck93 (fun a D M v e1 e2 => by cases e1; exact e2.symm) (sm_noleaf_ok) rfl (e.symm.trans h) rfl
  · have e : jK_isRight_406 d0 d1 d2 50 d4 s0 M = (sm_run shC smSa cal93 c93 true (fun a D M => some (a, D, M)) sm_noleaf 208 (c93.drop 193) [g0, g1, g2, g3, g4] [.int s0] [d0, d1, d2, 50, d4] M : Option (sm_S)) := rfl
    exact sm_blk (ρ := sm_S) (gd := (fun v => v = R)) (kx := 93) (i := 193) smVC rfl (by decide) ck93 (fun a D M v e1 e2 => by cases e1; exact e2.symm) (sm_noleaf_ok) rfl (e.symm.trans h) rfl
noncomputable def lf93_405 (d0 d1 d2 d3 d4 : Nat) : Nat → List Value → List Value → sm_D → sm_M → Option (sm_S) := fun pc ls st D' M =>
  if pc = 406 then (match ls, st with
    | [gl0, gl1, gl2, gl3, gl4], [.int bs0] => (sm_dq D' [d0, d1, d2, d3, d4] (jK_isRight_406 d0 d1 d2 d3 d4 bs0 M))
    | _, _ => none)
  else none
theorem ll93_405 (d0 d1 d2 d3 d4 : Nat) (hd3 : [d3] ∈ gC) {R : sm_S} : ∀ (pc : Nat) (ls st : List Value) (D' : sm_D) (M : sm_M) (v : sm_S), (lf93_405 d0 d1 d2 d3 d4) pc ls st D' M = some v → (fun v => v = R) v → sm_WJ smT smCl smSa shC f93 4 pc ls st D' M R := by
  intro pc ls st D' M v h hv
  unfold lf93_405 at h
  by_cases hp0 : pc = 406
  · subst hp0
    rw [if_pos (show (406 : Nat) = 406 from rfl)] at h
    split at h
    · skip
      replace h := sm_dq_inv h
      obtain ⟨he, h⟩ := h
      subst he
      have hv : v = R := hv
      subst hv
      exact w93_406 _ _ _ _ _ hd3 h
    · cases h
  · rw [if_neg hp0] at h
    cases h
set_option maxRecDepth 20000 in
set_option maxHeartbeats 4000000 in
theorem w93_405 (d0 d1 d2 d3 d4 : Nat) (hd3 : [d3] ∈ gC) {g0 g1 g2 g3 g4 : Value} {M : sm_M} {R : sm_S} (h : jK_isRight_405 d0 d1 d2 d3 d4 M = some R) : sm_WJ smT smCl smSa shC f93 4 405 [g0, g1, g2, g3, g4] [] [d0, d1, d2, d3, d4] M R := by
  rcases gC_inv hd3 with rfl | rfl
  · have e : jK_isRight_405 d0 d1 d2 40 d4 M = (sm_run shC smSa cal93 c93 true (fun a D M => some (a, D, M)) (lf93_405 d0 d1 d2 40 d4) 208 (c93.drop 192) [g0, g1, g2, g3, g4] [] [d0, d1, d2, 40, d4] M : Option (sm_S)) := rfl
    exact sm_blk (ρ := sm_S) (gd := (fun v => v = R)) (kx := 93) (i := 192) smVC rfl (by decide) ck93 (fun a D M v e1 e2 => by cases e1; exact e2.symm) (ll93_405 d0 d1 d2 40 d4 (by decide)) rfl (e.symm.trans h) rfl
  · have e : jK_isRight_405 d0 d1 d2 50 d4 M = (sm_run shC smSa cal93 c93 true (fun a D M => some (a, D, M)) (lf93_405 d0 d1 d2 50 d4) 208 (c93.drop 192) [g0, g1, g2, g3, g4] [] [d0, d1, d2, 50, d4] M : Option (sm_S)) := rfl
    exact sm_blk (ρ := sm_S) (gd := (fun v => v = R)) (kx := 93) (i := 192) smVC rfl (by decide) ck93 (fun a D M v e1 e2 => by cases e1; exact e2.symm) (ll93_405 d0 d1 d2 50 d4 (by decide)) rfl (e.symm.trans h) rfl
set_option maxRecDepth 20000 in
set_option maxHeartbeats 4000000 in
theorem w93_421 (d0 d1 d2 d3 d4 : Nat) (hd3 : [d3] ∈ gC) {s0 : Int32} {g0 g1 g2 g3 g4 : Value} {M : sm_M} {R : sm_S} (h : jK_isRight_421 d0 d1 d2 d3 d4 s0 M = some R) : sm_WJ smT smCl smSa shC f93 4 421 [g0, g1, g2, g3, g4] [.int s0] [d0, d1, d2, d3, d4] M R := by
  rcases gC_inv hd3 with rfl | rfl
  · have e : jK_isRight_421 d0 d1 d2 40 d4 s0 M = (sm_run shC smSa cal93 c93 true (fun a D M => some (a, D, M)) sm_noleaf 208 (c93.drop 202) [g0, g1, g2, g3, g4] [.int s0] [d0, d1, d2, 40, d4] M : Option (sm_S)) := rfl
    exact sm_blk (ρ := sm_S) (gd := (fun v => v = R)) (kx := 93) (i := 202) smVC rfl (by decide) ck93 (fun a D M v e1 e2 => by cases e1; exact e2.symm) (sm_noleaf_ok) rfl (e.symm.trans h) rfl
  · have e : jK_isRight_421 d0 d1 d2 50 d4 s0 M = (sm_run shC smSa cal93 c93 true (fun a D M => some (a, D, M)) sm_noleaf 208 (c93.drop 202) [g0, g1, g2, g3, g4] [.int s0] [d0, d1, d2, 50, d4] M : Option (sm_S)) := rfl
    exact sm_blk (ρ := sm_S) (gd := (fun v => v = R)) (kx := 93) (i := 202) smVC rfl (by decide) ck93 (fun a D M v e1 e2 => by cases e1; exact e2.symm) (sm_noleaf_ok) rfl (e.symm.trans h) rfl
noncomputable def lf93_0 (d0 d1 d2 d3 d4 : Nat) : Nat → List Value → List Value → sm_D → sm_M → Option (sm_S) := fun pc ls st D' M =>
  if pc = 111 then (match ls, st with
    | [.ref 31, gl1, .int bl2, .int bl3, .int bl4], [] => (sm_dq D' [d0, d1, d2, d3, d4] (jK_isRight_111 d0 d1 d2 d3 d4 bl2 bl3 bl4 M))
    | _, _ => none)
  else if pc = 200 then (match ls, st with
    | [gl0, gl1, gl2, gl3, gl4], [] => (sm_dq D' [d0, d1, d2, d3, d4] (jK_isRight_200 d0 d1 d2 d3 d4 M))
    | _, _ => none)
  else if pc = 201 then (match ls, st with
    | [gl0, gl1, gl2, gl3, gl4], [.int bs0] => (sm_dq D' [d0, d1, d2, d3, d4] (jK_isRight_201 d0 d1 d2 d3 d4 bs0 M))
    | _, _ => none)
  else if pc = 255 then (match ls, st with
    | [gl0, gl1, gl2, gl3, gl4], [.int bs2, .int bs1, .ref 31] => (sm_dq D' [d0, d1, d2, d3, d4] (jK_isRight_255 d0 d1 d2 d3 d4 bs1 bs2 M))
    | _, _ => none)
  else if pc = 265 then (match ls, st with
    | [gl0, gl1, gl2, gl3, gl4], [] => (sm_dq D' [d0, d1, d2, d3, d4] (jK_isRight_265 d0 d1 d2 d3 d4 M))
    | _, _ => none)
  else if pc = 295 then (match ls, st with
    | [gl0, gl1, gl2, gl3, gl4], [] => (sm_dq D' [d0, d1, d2, d3, d4] (jK_isRight_295 d0 d1 d2 d3 d4 M))
    | _, _ => none)
  else if pc = 296 then (match ls, st with
    | [gl0, gl1, gl2, gl3, gl4], [.int bs0] => (sm_dq D' [d0, d1, d2, d3, d4] (jK_isRight_296 d0 d1 d2 d3 d4 bs0 M))
    | _, _ => none)
  else if pc = 326 then (match ls, st with
    | [gl0, gl1, gl2, gl3, gl4], [] => (sm_dq D' [d0, d1, d2, d3, d4] (jK_isRight_326 d0 d1 d2 d3 d4 M))
    | _, _ => none)
  else if pc = 327 then (match ls, st with
    | [gl0, gl1, gl2, gl3, gl4], [.int bs0] => (sm_dq D' [d0, d1, d2, d3, d4] (jK_isRight_327 d0 d1 d2 d3 d4 bs0 M))
    | _, _ => none)
  else if pc = 369 then (match ls, st with
    | [gl0, gl1, gl2, gl3, gl4], [] => (sm_dq D' [d0, d1, d2, d3, d4] (jK_isRight_369 d0 d1 d2 d3 d4 M))
    | _, _ => none)
  else if pc = 370 then (match ls, st with
    | [gl0, gl1, gl2, gl3, gl4], [.int bs0] => (sm_dq D' [d0, d1, d2, d3, d4] (jK_isRight_370 d0 d1 d2 d3 d4 bs0 M))
    | _, _ => none)
  else if pc = 405 then (match ls, st with
    | [gl0, gl1, gl2, gl3, gl4], [] => (sm_dq D' [d0, d1, d2, d3, d4] (jK_isRight_405 d0 d1 d2 d3 d4 M))
    | _, _ => none)
  else if pc = 406 then (match ls, st with
    | [gl0, gl1, gl2, gl3, gl4], [.int bs0] => (sm_dq D' [d0, d1, d2, d3, d4] (jK_isRight_406 d0 d1 d2 d3 d4 bs0 M))
    | _, _ => none)
  else if pc = 421 then (match ls, st with
    | [gl0, gl1, gl2, gl3, gl4], [.int bs0] => (sm_dq D' [d0, d1, d2, d3, d4] (jK_isRight_421 d0 d1 d2 d3 d4 bs0 M))
    | _, _ => none)
  else none
theorem ll93_0 (d0 d1 d2 d3 d4 : Nat) (hd3 : [d3] ∈ gC) {R : sm_S} : ∀ (pc : Nat) (ls st : List Value) (D' : sm_D) (M : sm_M) (v : sm_S), (lf93_0 d0 d1 d2 d3 d4) pc ls st D' M = some v → (fun v => v = R) v → sm_WJ smT smCl smSa shC f93 4 pc ls st D' M R := by
  intro pc ls st D' M v h hv
  unfold lf93_0 at h
  by_cases hp0 : pc = 111
  · subst hp0
    rw [if_pos (show (111 : Nat) = 111 from rfl)] at h
    split at h
    · skip
      replace h := sm_dq_inv h
      obtain ⟨he, h⟩ := h
      subst he
      have hv : v = R := hv
      subst hv
      exact w93_111 _ _ _ _ _ hd3 h
    · cases h
  · rw [if_neg hp0] at h
    by_cases hp0 : pc = 200
    · subst hp0
      rw [if_pos (show (200 : Nat) = 200 from rfl)] at h
      split at h
      · skip
        replace h := sm_dq_inv h
        obtain ⟨he, h⟩ := h
        subst he
        have hv : v = R := hv
        subst hv
        exact w93_200 _ _ _ _ _ hd3 h
      · cases h
    · rw [if_neg hp0] at h
      by_cases hp0 : pc = 201
      · subst hp0
        rw [if_pos (show (201 : Nat) = 201 from rfl)] at h
        split at h
        · skip
          replace h := sm_dq_inv h
          obtain ⟨he, h⟩ := h
          subst he
          have hv : v = R := hv
          subst hv
          exact w93_201 _ _ _ _ _ hd3 h
        · cases h
      · rw [if_neg hp0] at h
        by_cases hp0 : pc = 255
        · subst hp0
          rw [if_pos (show (255 : Nat) = 255 from rfl)] at h
          split at h
          · skip
            replace h := sm_dq_inv h
            obtain ⟨he, h⟩ := h
            subst he
            have hv : v = R := hv
            subst hv
            exact w93_255 _ _ _ _ _ hd3 h
          · cases h
        · rw [if_neg hp0] at h
          by_cases hp0 : pc = 265
          · subst hp0
            rw [if_pos (show (265 : Nat) = 265 from rfl)] at h
            split at h
            · skip
              replace h := sm_dq_inv h
              obtain ⟨he, h⟩ := h
              subst he
              have hv : v = R := hv
              subst hv
              exact w93_265 _ _ _ _ _ hd3 h
            · cases h
          · rw [if_neg hp0] at h
            by_cases hp0 : pc = 295
            · subst hp0
              rw [if_pos (show (295 : Nat) = 295 from rfl)] at h
              split at h
              · skip
                replace h := sm_dq_inv h
                obtain ⟨he, h⟩ := h
                subst he
                have hv : v = R := hv
                subst hv
                exact w93_295 _ _ _ _ _ hd3 h
              · cases h
            · rw [if_neg hp0] at h
              by_cases hp0 : pc = 296
              · subst hp0
                rw [if_pos (show (296 : Nat) = 296 from rfl)] at h
                split at h
                · skip
                  replace h := sm_dq_inv h
                  obtain ⟨he, h⟩ := h
                  subst he
                  have hv : v = R := hv
                  subst hv
                  exact w93_296 _ _ _ _ _ hd3 h
                · cases h
              · rw [if_neg hp0] at h
                by_cases hp0 : pc = 326
                · subst hp0
                  rw [if_pos (show (326 : Nat) = 326 from rfl)] at h
                  split at h
                  · skip
                    replace h := sm_dq_inv h
                    obtain ⟨he, h⟩ := h
                    subst he
                    have hv : v = R := hv
                    subst hv
                    exact w93_326 _ _ _ _ _ hd3 h
                  · cases h
                · rw [if_neg hp0] at h
                  by_cases hp0 : pc = 327
                  · subst hp0
                    rw [if_pos (show (327 : Nat) = 327 from rfl)] at h
                    split at h
                    · skip
                      replace h := sm_dq_inv h
                      obtain ⟨he, h⟩ := h
                      subst he
                      have hv : v = R := hv
                      subst hv
                      exact w93_327 _ _ _ _ _ hd3 h
                    · cases h
                  · rw [if_neg hp0] at h
                    by_cases hp0 : pc = 369
                    · subst hp0
                      rw [if_pos (show (369 : Nat) = 369 from rfl)] at h
                      split at h
                      · skip
                        replace h := sm_dq_inv h
                        obtain ⟨he, h⟩ := h
                        subst he
                        have hv : v = R := hv
                        subst hv
                        exact w93_369 _ _ _ _ _ hd3 h
                      · cases h
                    · rw [if_neg hp0] at h
                      by_cases hp0 : pc = 370
                      · subst hp0
                        rw [if_pos (show (370 : Nat) = 370 from rfl)] at h
                        split at h
                        · skip
                          replace h := sm_dq_inv h
                          obtain ⟨he, h⟩ := h
                          subst he
                          have hv : v = R := hv
                          subst hv
                          exact w93_370 _ _ _ _ _ hd3 h
                        · cases h
                      · rw [if_neg hp0] at h
                        by_cases hp0 : pc = 405
                        · subst hp0
                          rw [if_pos (show (405 : Nat) = 405 from rfl)] at h
                          split at h
                          · skip
                            replace h := sm_dq_inv h
                            obtain ⟨he, h⟩ := h
                            subst he
                            have hv : v = R := hv
                            subst hv
                            exact w93_405 _ _ _ _ _ hd3 h
                          · cases h
                        · rw [if_neg hp0] at h
                          by_cases hp0 : pc = 406
                          · subst hp0
                            rw [if_pos (show (406 : Nat) = 406 from rfl)] at h
                            split at h
                            · skip
                              replace h := sm_dq_inv h
                              obtain ⟨he, h⟩ := h
                              subst he
                              have hv : v = R := hv
                              subst hv
                              exact w93_406 _ _ _ _ _ hd3 h
                            · cases h
                          · rw [if_neg hp0] at h
                            by_cases hp0 : pc = 421
                            · subst hp0
                              rw [if_pos (show (421 : Nat) = 421 from rfl)] at h
                              split at h
                              · skip
                                replace h := sm_dq_inv h
                                obtain ⟨he, h⟩ := h
                                subst he
                                have hv : v = R := hv
                                subst hv
                                exact w93_421 _ _ _ _ _ hd3 h
                              · cases h
                            · rw [if_neg hp0] at h
                              cases h
set_option maxRecDepth 20000 in
set_option maxHeartbeats 4000000 in
theorem we93 (d0 d1 d2 d3 d4 : Nat) (hd3 : [d3] ∈ gC) {l1 : Int32} {M : sm_M} {R : sm_S} (h : jK_isRight d0 d1 d2 d3 d4 l1 M = some R) : sm_WJ smT smCl smSa shC f93 4 0 [.ref 31, .int l1, .retAddr 0, .retAddr 0, .retAddr 0] [] [d0, d1, d2, d3, d4] M R := by
  rcases gC_inv hd3 with rfl | rfl
  · have e : jK_isRight d0 d1 d2 40 d4 l1 M = (sm_run shC smSa cal93 c93 true (fun a D M => some (a, D, M)) (lf93_0 d0 d1 d2 40 d4) 208 (c93.drop 0) [.ref 31, .int l1, .retAddr 0, .retAddr 0, .retAddr 0] [] [d0, d1, d2, 40, d4] M : Option (sm_S)) := rfl
    exact sm_blk (ρ := sm_S) (gd := (fun v => v = R)) (kx := 93) (i := 0) smVC rfl (by decide) ck93 (fun a D M v e1 e2 => by cases e1; exact e2.symm) (ll93_0 d0 d1 d2 40 d4 (by decide)) rfl (e.symm.trans h) rfl
  · have e : jK_isRight d0 d1 d2 50 d4 l1 M = (sm_run shC smSa cal93 c93 true (fun a D M => some (a, D, M)) (lf93_0 d0 d1 d2 50 d4) 208 (c93.drop 0) [.ref 31, .int l1, .retAddr 0, .retAddr 0, .retAddr 0] [] [d0, d1, d2, 50, d4] M : Option (sm_S)) := rfl
    exact sm_blk (ρ := sm_S) (gd := (fun v => v = R)) (kx := 93) (i := 0) smVC rfl (by decide) ck93 (fun a D M v e1 e2 => by cases e1; exact e2.symm) (ll93_0 d0 d1 d2 50 d4 (by decide)) rfl (e.symm.trans h) rfl
theorem m93 {d0 d1 d2 d3 d4 : Nat} (hd3 : [d3] ∈ gC) {l1 : Int32} {M : sm_M} {R : sm_S} (h : jK_isRight d0 d1 d2 d3 d4 l1 M = some R) : sm_MJ smT smCl smSa shC f93 4 [.ref 31, .int l1] [d0, d1, d2, d3, d4] M R :=
  sm_met (by decide) (Nat.le_of_ble_eq_true rfl) (List.all_eq_true.mp rfl) (we93 d0 d1 d2 d3 d4 hd3 h)

-- jK_ends
set_option maxRecDepth 20000 in
set_option maxHeartbeats 4000000 in
theorem w92_23 {s0 : Int32} {g0 : Value} {D : sm_D} {M : sm_M} {R : sm_S} (h : jK_ends_23 s0 D M = some R) : sm_WJ smT smCl smSa shC f92 0 23 [g0] [.int s0] D M R := by
  have e : jK_ends_23 s0 D M = (sm_run shC smSa sm_nocal c92 true (fun a D M => some (a, D, M)) sm_noleaf 18 (c92.drop 12) [g0] [.int s0] D M : Option (sm_S)) := rfl
  exact sm_blk (ρ := sm_S) (gd := (fun v => v = R)) (kx := 92) (i := 12) smVC rfl (by decide) (sm_nocal_ok smT smCl smP smSa shC 0) (fun a D M v e1 e2 => by cases e1; exact e2.symm) (sm_noleaf_ok) rfl (e.symm.trans h) rfl
noncomputable def lf92_18 (D : sm_D) : Nat → List Value → List Value → sm_D → sm_M → Option (sm_S) := fun pc ls st D' M =>
  if pc = 23 then (match ls, st with
    | [gl0], [.int bs0] => (jK_ends_23 bs0 D' M)
    | _, _ => none)
  else none
theorem ll92_18 (D : sm_D) {R : sm_S} : ∀ (pc : Nat) (ls st : List Value) (D' : sm_D) (M : sm_M) (v : sm_S), (lf92_18 D) pc ls st D' M = some v → (fun v => v = R) v → sm_WJ smT smCl smSa shC f92 0 pc ls st D' M R := by
  intro pc ls st D' M v h hv
  unfold lf92_18 at h
  by_cases hp0 : pc = 23
  · subst hp0
    rw [if_pos (show (23 : Nat) = 23 from rfl)] at h
    split at h
    · skip
      have hv : v = R := hv
      subst hv
      exact w92_23  h
    · cases h
  · rw [if_neg hp0] at h
    cases h
set_option maxRecDepth 20000 in
set_option maxHeartbeats 4000000 in
theorem w92_18 {g0 : Value} {D : sm_D} {M : sm_M} {R : sm_S} (h : jK_ends_18 D M = some R) : sm_WJ smT smCl smSa shC f92 0 18 [g0] [] D M R := by
  have e : jK_ends_18 D M = (sm_run shC smSa sm_nocal c92 true (fun a D M => some (a, D, M)) (lf92_18 D) 18 (c92.drop 9) [g0] [] D M : Option (sm_S)) := rfl
  exact sm_blk (ρ := sm_S) (gd := (fun v => v = R)) (kx := 92) (i := 9) smVC rfl (by decide) (sm_nocal_ok smT smCl smP smSa shC 0) (fun a D M v e1 e2 => by cases e1; exact e2.symm) (ll92_18 D) rfl (e.symm.trans h) rfl
noncomputable def lf92_0 (D : sm_D) : Nat → List Value → List Value → sm_D → sm_M → Option (sm_S) := fun pc ls st D' M =>
  if pc = 18 then (match ls, st with
    | [gl0], [] => (jK_ends_18 D' M)
    | _, _ => none)
  else if pc = 23 then (match ls, st with
    | [gl0], [.int bs0] => (jK_ends_23 bs0 D' M)
    | _, _ => none)
  else none
theorem ll92_0 (D : sm_D) {R : sm_S} : ∀ (pc : Nat) (ls st : List Value) (D' : sm_D) (M : sm_M) (v : sm_S), (lf92_0 D) pc ls st D' M = some v → (fun v => v = R) v → sm_WJ smT smCl smSa shC f92 0 pc ls st D' M R := by
  intro pc ls st D' M v h hv
  unfold lf92_0 at h
  by_cases hp0 : pc = 18
  · subst hp0
    rw [if_pos (show (18 : Nat) = 18 from rfl)] at h
    split at h
    · skip
      have hv : v = R := hv
      subst hv
      exact w92_18  h
    · cases h
  · rw [if_neg hp0] at h
    by_cases hp0 : pc = 23
    · subst hp0
      rw [if_pos (show (23 : Nat) = 23 from rfl)] at h
      split at h
      · skip
        have hv : v = R := hv
        subst hv
        exact w92_23  h
      · cases h
    · rw [if_neg hp0] at h
      cases h
set_option maxRecDepth 20000 in
set_option maxHeartbeats 4000000 in
theorem we92 {l0 : Int32} {D : sm_D} {M : sm_M} {R : sm_S} (h : jK_ends l0 D M = some R) : sm_WJ smT smCl smSa shC f92 0 0 [.int l0] [] D M R := by
  have e : jK_ends l0 D M = (sm_run shC smSa sm_nocal c92 true (fun a D M => some (a, D, M)) (lf92_0 D) 18 (c92.drop 0) [.int l0] [] D M : Option (sm_S)) := rfl
  exact sm_blk (ρ := sm_S) (gd := (fun v => v = R)) (kx := 92) (i := 0) smVC rfl (by decide) (sm_nocal_ok smT smCl smP smSa shC 0) (fun a D M v e1 e2 => by cases e1; exact e2.symm) (ll92_0 D) rfl (e.symm.trans h) rfl
theorem m92 {l0 : Int32} {D : sm_D} {M : sm_M} {R : sm_S} (h : jK_ends l0 D M = some R) : sm_MJ smT smCl smSa shC f92 0 [.int l0] D M R :=
  sm_met (by decide) (Nat.le_of_ble_eq_true rfl) (List.all_eq_true.mp rfl) (we92  h)

-- jK_firstWrong
noncomputable def cal91  : sm_Cal := fun x as D M =>
  if x = 173 then (match as with
    | [.ref q0, .int a1] => (sm_lng shC q0 (fun L => sm_ga [q0, L] gF (jX_fill q0 L a1 D M)))
    | _ => none)
  else if x = 107 then (match as with
    | [.ref q0, .int a1, .int a2] => (sm_ga [q0] gC (jC_askedType q0 a1 a2 D M))
    | _ => none)
  else if x = 105 then (match as with
    | [.ref q0, .int a1] => (sm_ga [q0] gC (jC_startOf q0 a1 D M))
    | _ => none)
  else if x = 106 then (match as with
    | [.ref q0, .int a1] => (sm_ga [q0] gC (jC_lengthOf q0 a1 D M))
    | _ => none)
  else if x = 93 then (match as, D with
    | [.ref 31, .int a1], [e0, e1, e2, e3, e4] => (sm_ga [e3] gC (jK_isRight e0 e1 e2 e3 e4 a1 M))
    | _, _ => none)
  else if x = 92 then (match as with
    | [.int a0] => (jK_ends a0 D M)
    | _ => none)
  else none
theorem ck91  : sm_CalOk smT smCl smP smSa shC 5 cal91 := by
  intro x g as D M R hx h
  unfold cal91 at h
  by_cases hx' : x = 173
  · subst hx'
    rw [if_pos (show (173 : Nat) = 173 from rfl)] at h
    cases (show smP[173]? = some f173 from rfl).symm.trans hx
    split at h
    · replace h := sm_lng_inv h
      obtain ⟨L, h⟩ := h
      replace h := sm_ga_inv h
      obtain ⟨h1, h⟩ := h
      exact Or.inl ⟨0, by omega, m173  h1 h⟩
    · cases h
  · rw [if_neg hx'] at h
    by_cases hx' : x = 107
    · subst hx'
      rw [if_pos (show (107 : Nat) = 107 from rfl)] at h
      cases (show smP[107]? = some f107 from rfl).symm.trans hx
      split at h
      · replace h := sm_ga_inv h
        obtain ⟨h1, h⟩ := h
        exact Or.inl ⟨1, by omega, m107  h1 h⟩
      · cases h
    · rw [if_neg hx'] at h
      by_cases hx' : x = 105
      · subst hx'
        rw [if_pos (show (105 : Nat) = 105 from rfl)] at h
        cases (show smP[105]? = some f105 from rfl).symm.trans hx
        split at h
        · replace h := sm_ga_inv h
          obtain ⟨h1, h⟩ := h
          exact Or.inl ⟨1, by omega, m105  h1 h⟩
        · cases h
      · rw [if_neg hx'] at h
        by_cases hx' : x = 106
        · subst hx'
          rw [if_pos (show (106 : Nat) = 106 from rfl)] at h
          cases (show smP[106]? = some f106 from rfl).symm.trans hx
          split at h
          · replace h := sm_ga_inv h
            obtain ⟨h1, h⟩ := h
            exact Or.inl ⟨1, by omega, m106  h1 h⟩
          · cases h
        · rw [if_neg hx'] at h
          by_cases hx' : x = 93
          · subst hx'
            rw [if_pos (show (93 : Nat) = 93 from rfl)] at h
            cases (show smP[93]? = some f93 from rfl).symm.trans hx
            split at h
            · replace h := sm_ga_inv h
              obtain ⟨h1, h⟩ := h
              exact Or.inl ⟨4, by omega, m93  h1 h⟩
            · cases h
          · rw [if_neg hx'] at h
            by_cases hx' : x = 92
            · subst hx'
              rw [if_pos (show (92 : Nat) = 92 from rfl)] at h
              cases (show smP[92]? = some f92 from rfl).symm.trans hx
              split at h
              · skip
                exact Or.inl ⟨0, by omega, m92   h⟩
              · cases h
            · rw [if_neg hx'] at h
              cases h
set_option maxRecDepth 20000 in
set_option maxHeartbeats 4000000 in
theorem w91_82 (d0 d1 d2 d3 d4 : Nat) (hd3 : [d3] ∈ gC) {l5 : Int32} {g0 g1 g2 g3 g4 : Value} {M : sm_M} {R : sm_S} (h : jK_firstWrong_82 d0 d1 d2 d3 d4 l5 M = some R) : sm_WJ smT smCl smSa shC f91 5 82 [g0, g1, g2, g3, g4, .int l5] [] [d0, d1, d2, d3, d4] M R := by
  rcases gC_inv hd3 with rfl | rfl
  · have e : jK_firstWrong_82 d0 d1 d2 40 d4 l5 M = (sm_run shC smSa cal91 c91 false (fun a D M => some (a, D, M)) sm_noleaf 69 (c91.drop 45) [g0, g1, g2, g3, g4, .int l5] [] [d0, d1, d2, 40, d4] M : Option (sm_S)) := rfl
    exact sm_blk (ρ := sm_S) (gd := (fun v => v = R)) (kx := 91) (i := 45) smVC rfl (by decide) ck91 (fun a D M v e1 e2 => by cases e1; exact e2.symm) (sm_noleaf_ok) rfl (e.symm.trans h) rfl
  · have e : jK_firstWrong_82 d0 d1 d2 50 d4 l5 M = (sm_run shC smSa cal91 c91 false (fun a D M => some (a, D, M)) sm_noleaf 69 (c91.drop 45) [g0, g1, g2, g3, g4, .int l5] [] [d0, d1, d2, 50, d4] M : Option (sm_S)) := rfl
    exact sm_blk (ρ := sm_S) (gd := (fun v => v = R)) (kx := 91) (i := 45) smVC rfl (by decide) ck91 (fun a D M v e1 e2 => by cases e1; exact e2.symm) (sm_noleaf_ok) rfl (e.symm.trans h) rfl
set_option maxRecDepth 20000 in
set_option maxHeartbeats 4000000 in
theorem w91_118 (d0 d1 d2 d3 d4 : Nat) (hd3 : [d3] ∈ gC) {s0 : Int32} {g0 g1 g2 g3 g4 g5 : Value} {M : sm_M} {R : sm_S} (h : jK_firstWrong_118 d0 d1 d2 d3 d4 s0 M = some R) : sm_WJ smT smCl smSa shC f91 5 118 [g0, g1, g2, g3, g4, g5] [.int s0] [d0, d1, d2, d3, d4] M R := by
  rcases gC_inv hd3 with rfl | rfl
  · have e : jK_firstWrong_118 d0 d1 d2 40 d4 s0 M = (sm_run shC smSa cal91 c91 false (fun a D M => some (a, D, M)) sm_noleaf 69 (c91.drop 63) [g0, g1, g2, g3, g4, g5] [.int s0] [d0, d1, d2, 40, d4] M : Option (sm_S)) := rfl
    exact sm_blk (ρ := sm_S) (gd := (fun v => v = R)) (kx := 91) (i := 63) smVC rfl (by decide) ck91 (fun a D M v e1 e2 => by cases e1; exact e2.symm) (sm_noleaf_ok) rfl (e.symm.trans h) rfl
  · have e : jK_firstWrong_118 d0 d1 d2 50 d4 s0 M = (sm_run shC smSa cal91 c91 false (fun a D M => some (a, D, M)) sm_noleaf 69 (c91.drop 63) [g0, g1, g2, g3, g4, g5] [.int s0] [d0, d1, d2, 50, d4] M : Option (sm_S)) := rfl
    exact sm_blk (ρ := sm_S) (gd := (fun v => v = R)) (kx := 91) (i := 63) smVC rfl (by decide) ck91 (fun a D M v e1 e2 => by cases e1; exact e2.symm) (sm_noleaf_ok) rfl (e.symm.trans h) rfl
def lh91_60 (d0 d1 d2 d3 d4 : Nat) (R : sm_S) (s : Int32 × Int32 × Int32 × Int32 × sm_M) : Prop := ∀ (g1 : Value), sm_WJ smT smCl smSa shC f91 5 60 [.ref 31, g1, .int (s.1), .int (s.2.1), .int (s.2.2.1), .int (s.2.2.2.1)] [] [d0, d1, d2, d3, d4] (s.2.2.2.2) R
def gd91_60 (d0 d1 d2 d3 d4 : Nat) (R : sm_S) (v : (Int32 × Int32 × Int32 × Int32 × sm_M) ⊕ sm_S) : Prop := match v with
  | .inl s => lh91_60 d0 d1 d2 d3 d4 R s
  | .inr r => r = R
noncomputable def lf91_60 (d0 d1 d2 d3 d4 : Nat) : Nat → List Value → List Value → sm_D → sm_M → Option ((Int32 × Int32 × Int32 × Int32 × sm_M) ⊕ sm_S) := fun pc ls st D' M =>
  if pc = 60 then (match ls, st with
    | [.ref 31, gl1, .int bl2, .int bl3, .int bl4, .int bl5], [] => (sm_dq D' [d0, d1, d2, d3, d4] (some (.inl (bl2, bl3, bl4, bl5, M))))
    | _, _ => none)
  else if pc = 82 then (match ls, st with
    | [gl0, gl1, gl2, gl3, gl4, .int bl5], [] => (sm_dq D' [d0, d1, d2, d3, d4] (sm_inr (jK_firstWrong_82 d0 d1 d2 d3 d4 bl5 M)))
    | _, _ => none)
  else if pc = 118 then (match ls, st with
    | [gl0, gl1, gl2, gl3, gl4, gl5], [.int bs0] => (sm_dq D' [d0, d1, d2, d3, d4] (sm_inr (jK_firstWrong_118 d0 d1 d2 d3 d4 bs0 M)))
    | _, _ => none)
  else none
theorem ll91_60 (d0 d1 d2 d3 d4 : Nat) (hd3 : [d3] ∈ gC) {R : sm_S} : ∀ (pc : Nat) (ls st : List Value) (D' : sm_D) (M : sm_M) (v : (Int32 × Int32 × Int32 × Int32 × sm_M) ⊕ sm_S), (lf91_60 d0 d1 d2 d3 d4) pc ls st D' M = some v → (gd91_60 d0 d1 d2 d3 d4 R) v → sm_WJ smT smCl smSa shC f91 5 pc ls st D' M R := by
  intro pc ls st D' M v h hv
  unfold lf91_60 at h
  by_cases hp0 : pc = 60
  · subst hp0
    rw [if_pos (show (60 : Nat) = 60 from rfl)] at h
    split at h
    · skip
      replace h := sm_dq_inv h
      obtain ⟨he, h⟩ := h
      subst he
      cases h
      exact hv _
    · cases h
  · rw [if_neg hp0] at h
    by_cases hp0 : pc = 82
    · subst hp0
      rw [if_pos (show (82 : Nat) = 82 from rfl)] at h
      split at h
      · skip
        replace h := sm_dq_inv h
        obtain ⟨he, h⟩ := h
        subst he
        replace h := sm_inr_inv h
        obtain ⟨r, h, he⟩ := h
        subst he
        have hv : r = R := hv
        subst hv
        exact w91_82 _ _ _ _ _ hd3 h
      · cases h
    · rw [if_neg hp0] at h
      by_cases hp0 : pc = 118
      · subst hp0
        rw [if_pos (show (118 : Nat) = 118 from rfl)] at h
        split at h
        · skip
          replace h := sm_dq_inv h
          obtain ⟨he, h⟩ := h
          subst he
          replace h := sm_inr_inv h
          obtain ⟨r, h, he⟩ := h
          subst he
          have hv : r = R := hv
          subst hv
          exact w91_118 _ _ _ _ _ hd3 h
        · cases h
      · rw [if_neg hp0] at h
        cases h
set_option maxRecDepth 20000 in
set_option maxHeartbeats 4000000 in
theorem wc91_60 (d0 d1 d2 d3 d4 : Nat) (hd3 : [d3] ∈ gC) {l2 l3 l4 l5 : Int32} {g1 : Value} {M : sm_M} {R : sm_S} {v : (Int32 × Int32 × Int32 × Int32 × sm_M) ⊕ sm_S} (h : jK_firstWrong_60_c d0 d1 d2 d3 d4 l2 l3 l4 l5 M = some v) (hv : (gd91_60 d0 d1 d2 d3 d4 R) v) : sm_WJ smT smCl smSa shC f91 5 60 [.ref 31, g1, .int l2, .int l3, .int l4, .int l5] [] [d0, d1, d2, d3, d4] M R := by
  rcases gC_inv hd3 with rfl | rfl
  · have e : jK_firstWrong_60_c d0 d1 d2 40 d4 l2 l3 l4 l5 M = (sm_run shC smSa cal91 c91 false (fun a D M => some (.inr (a, D, M))) (lf91_60 d0 d1 d2 40 d4) 69 (c91.drop 34) [.ref 31, g1, .int l2, .int l3, .int l4, .int l5] [] [d0, d1, d2, 40, d4] M : Option ((Int32 × Int32 × Int32 × Int32 × sm_M) ⊕ sm_S)) := rfl
    exact sm_blk (ρ := (Int32 × Int32 × Int32 × Int32 × sm_M) ⊕ sm_S) (gd := (gd91_60 d0 d1 d2 40 d4 R)) (kx := 91) (i := 34) smVC rfl (by decide) ck91 (fun a D M v e1 e2 => by cases e1; exact e2.symm) (ll91_60 d0 d1 d2 40 d4 (by decide)) rfl (e.symm.trans h) hv
  · have e : jK_firstWrong_60_c d0 d1 d2 50 d4 l2 l3 l4 l5 M = (sm_run shC smSa cal91 c91 false (fun a D M => some (.inr (a, D, M))) (lf91_60 d0 d1 d2 50 d4) 69 (c91.drop 34) [.ref 31, g1, .int l2, .int l3, .int l4, .int l5] [] [d0, d1, d2, 50, d4] M : Option ((Int32 × Int32 × Int32 × Int32 × sm_M) ⊕ sm_S)) := rfl
    exact sm_blk (ρ := (Int32 × Int32 × Int32 × Int32 × sm_M) ⊕ sm_S) (gd := (gd91_60 d0 d1 d2 50 d4 R)) (kx := 91) (i := 34) smVC rfl (by decide) ck91 (fun a D M v e1 e2 => by cases e1; exact e2.symm) (ll91_60 d0 d1 d2 50 d4 (by decide)) rfl (e.symm.trans h) hv
theorem w91_60 (d0 d1 d2 d3 d4 : Nat) (hd3 : [d3] ∈ gC) {l2 l3 l4 l5 : Int32} {g1 : Value} {M : sm_M} {R : sm_S} (h : jK_firstWrong_60 d0 d1 d2 d3 d4 l2 l3 l4 l5 M = some R) : sm_WJ smT smCl smSa shC f91 5 60 [.ref 31, g1, .int l2, .int l3, .int l4, .int l5] [] [d0, d1, d2, d3, d4] M R := by
  have hh : lh91_60 d0 d1 d2 d3 d4 R (l2, l3, l4, l5, M) := by
    refine sm_lp_ind (b := jK_firstWrong_60_b d0 d1 d2 d3 d4) (r := R) (lh91_60 d0 d1 d2 d3 d4 R) ?_ h
    intro s v hb h1 h2
    obtain ⟨z0, z1, z2, z3, M1⟩ := s
    have hv : gd91_60 d0 d1 d2 d3 d4 R v := by
      cases v with
      | inl s' => exact h1 s' rfl
      | inr r => exact h2 r rfl
    intro g1
    exact wc91_60 d0 d1 d2 d3 d4 hd3 hb hv
  exact hh _
def lh91_10 (d0 d1 d2 d3 d4 : Nat) (R : sm_S) (s : Int32 × Int32 × sm_M) : Prop := ∀ (g3 g4 g5 : Value), sm_WJ smT smCl smSa shC f91 5 10 [.ref 31, .int (s.1), .int (s.2.1), g3, g4, g5] [] [d0, d1, d2, d3, d4] (s.2.2) R
def gd91_10 (d0 d1 d2 d3 d4 : Nat) (R : sm_S) (v : (Int32 × Int32 × sm_M) ⊕ sm_S) : Prop := match v with
  | .inl s => lh91_10 d0 d1 d2 d3 d4 R s
  | .inr r => r = R
noncomputable def lf91_10 (d0 d1 d2 d3 d4 : Nat) : Nat → List Value → List Value → sm_D → sm_M → Option ((Int32 × Int32 × sm_M) ⊕ sm_S) := fun pc ls st D' M =>
  if pc = 10 then (match ls, st with
    | [.ref 31, .int bl1, .int bl2, gl3, gl4, gl5], [] => (sm_dq D' [d0, d1, d2, d3, d4] (some (.inl (bl1, bl2, M))))
    | _, _ => none)
  else if pc = 60 then (match ls, st with
    | [.ref 31, gl1, .int bl2, .int bl3, .int bl4, .int bl5], [] => (sm_dq D' [d0, d1, d2, d3, d4] (sm_inr (jK_firstWrong_60 d0 d1 d2 d3 d4 bl2 bl3 bl4 bl5 M)))
    | _, _ => none)
  else none
theorem ll91_10 (d0 d1 d2 d3 d4 : Nat) (hd3 : [d3] ∈ gC) {R : sm_S} : ∀ (pc : Nat) (ls st : List Value) (D' : sm_D) (M : sm_M) (v : (Int32 × Int32 × sm_M) ⊕ sm_S), (lf91_10 d0 d1 d2 d3 d4) pc ls st D' M = some v → (gd91_10 d0 d1 d2 d3 d4 R) v → sm_WJ smT smCl smSa shC f91 5 pc ls st D' M R := by
  intro pc ls st D' M v h hv
  unfold lf91_10 at h
  by_cases hp0 : pc = 10
  · subst hp0
    rw [if_pos (show (10 : Nat) = 10 from rfl)] at h
    split at h
    · skip
      replace h := sm_dq_inv h
      obtain ⟨he, h⟩ := h
      subst he
      cases h
      exact hv _ _ _
    · cases h
  · rw [if_neg hp0] at h
    by_cases hp0 : pc = 60
    · subst hp0
      rw [if_pos (show (60 : Nat) = 60 from rfl)] at h
      split at h
      · skip
        replace h := sm_dq_inv h
        obtain ⟨he, h⟩ := h
        subst he
        replace h := sm_inr_inv h
        obtain ⟨r, h, he⟩ := h
        subst he
        have hv : r = R := hv
        subst hv
        exact w91_60 _ _ _ _ _ hd3 h
      · cases h
    · rw [if_neg hp0] at h
      cases h
set_option maxRecDepth 20000 in
set_option maxHeartbeats 4000000 in
theorem wc91_10 (d0 d1 d2 d3 d4 : Nat) (hd3 : [d3] ∈ gC) {l1 l2 : Int32} {g3 g4 g5 : Value} {M : sm_M} {R : sm_S} {v : (Int32 × Int32 × sm_M) ⊕ sm_S} (h : jK_firstWrong_10_c d0 d1 d2 d3 d4 l1 l2 M = some v) (hv : (gd91_10 d0 d1 d2 d3 d4 R) v) : sm_WJ smT smCl smSa shC f91 5 10 [.ref 31, .int l1, .int l2, g3, g4, g5] [] [d0, d1, d2, d3, d4] M R := by
  rcases gC_inv hd3 with rfl | rfl
  · have e : jK_firstWrong_10_c d0 d1 d2 40 d4 l1 l2 M = (sm_run shC smSa cal91 c91 false (fun a D M => some (.inr (a, D, M))) (lf91_10 d0 d1 d2 40 d4) 69 (c91.drop 6) [.ref 31, .int l1, .int l2, g3, g4, g5] [] [d0, d1, d2, 40, d4] M : Option ((Int32 × Int32 × sm_M) ⊕ sm_S)) := rfl
    exact sm_blk (ρ := (Int32 × Int32 × sm_M) ⊕ sm_S) (gd := (gd91_10 d0 d1 d2 40 d4 R)) (kx := 91) (i := 6) smVC rfl (by decide) ck91 (fun a D M v e1 e2 => by cases e1; exact e2.symm) (ll91_10 d0 d1 d2 40 d4 (by decide)) rfl (e.symm.trans h) hv
  · have e : jK_firstWrong_10_c d0 d1 d2 50 d4 l1 l2 M = (sm_run shC smSa cal91 c91 false (fun a D M => some (.inr (a, D, M))) (lf91_10 d0 d1 d2 50 d4) 69 (c91.drop 6) [.ref 31, .int l1, .int l2, g3, g4, g5] [] [d0, d1, d2, 50, d4] M : Option ((Int32 × Int32 × sm_M) ⊕ sm_S)) := rfl
    exact sm_blk (ρ := (Int32 × Int32 × sm_M) ⊕ sm_S) (gd := (gd91_10 d0 d1 d2 50 d4 R)) (kx := 91) (i := 6) smVC rfl (by decide) ck91 (fun a D M v e1 e2 => by cases e1; exact e2.symm) (ll91_10 d0 d1 d2 50 d4 (by decide)) rfl (e.symm.trans h) hv
theorem w91_10 (d0 d1 d2 d3 d4 : Nat) (hd3 : [d3] ∈ gC) {l1 l2 : Int32} {g3 g4 g5 : Value} {M : sm_M} {R : sm_S} (h : jK_firstWrong_10 d0 d1 d2 d3 d4 l1 l2 M = some R) : sm_WJ smT smCl smSa shC f91 5 10 [.ref 31, .int l1, .int l2, g3, g4, g5] [] [d0, d1, d2, d3, d4] M R := by
  have hh : lh91_10 d0 d1 d2 d3 d4 R (l1, l2, M) := by
    refine sm_lp_ind (b := jK_firstWrong_10_b d0 d1 d2 d3 d4) (r := R) (lh91_10 d0 d1 d2 d3 d4 R) ?_ h
    intro s v hb h1 h2
    obtain ⟨z0, z1, M1⟩ := s
    have hv : gd91_10 d0 d1 d2 d3 d4 R v := by
      cases v with
      | inl s' => exact h1 s' rfl
      | inr r => exact h2 r rfl
    intro g3 g4 g5
    exact wc91_10 d0 d1 d2 d3 d4 hd3 hb hv
  exact hh _ _ _
noncomputable def lf91_0 (d0 d1 d2 d3 d4 : Nat) : Nat → List Value → List Value → sm_D → sm_M → Option (sm_S) := fun pc ls st D' M =>
  if pc = 10 then (match ls, st with
    | [.ref 31, .int bl1, .int bl2, gl3, gl4, gl5], [] => (sm_dq D' [d0, d1, d2, d3, d4] (jK_firstWrong_10 d0 d1 d2 d3 d4 bl1 bl2 M))
    | _, _ => none)
  else none
theorem ll91_0 (d0 d1 d2 d3 d4 : Nat) (hd3 : [d3] ∈ gC) {R : sm_S} : ∀ (pc : Nat) (ls st : List Value) (D' : sm_D) (M : sm_M) (v : sm_S), (lf91_0 d0 d1 d2 d3 d4) pc ls st D' M = some v → (fun v => v = R) v → sm_WJ smT smCl smSa shC f91 5 pc ls st D' M R := by
  intro pc ls st D' M v h hv
  unfold lf91_0 at h
  by_cases hp0 : pc = 10
  · subst hp0
    rw [if_pos (show (10 : Nat) = 10 from rfl)] at h
    split at h
    · skip
      replace h := sm_dq_inv h
      obtain ⟨he, h⟩ := h
      subst he
      have hv : v = R := hv
      subst hv
      exact w91_10 _ _ _ _ _ hd3 h
    · cases h
  · rw [if_neg hp0] at h
    cases h
set_option maxRecDepth 20000 in
set_option maxHeartbeats 4000000 in
theorem we91 (d0 d1 d2 d3 d4 : Nat) (hd3 : [d3] ∈ gC) {l1 : Int32} {M : sm_M} {R : sm_S} (h : jK_firstWrong d0 d1 d2 d3 d4 l1 M = some R) : sm_WJ smT smCl smSa shC f91 5 0 [.ref 31, .int l1, .retAddr 0, .retAddr 0, .retAddr 0, .retAddr 0] [] [d0, d1, d2, d3, d4] M R := by
  rcases gC_inv hd3 with rfl | rfl
  · have e : jK_firstWrong d0 d1 d2 40 d4 l1 M = (sm_run shC smSa cal91 c91 false (fun a D M => some (a, D, M)) (lf91_0 d0 d1 d2 40 d4) 69 (c91.drop 0) [.ref 31, .int l1, .retAddr 0, .retAddr 0, .retAddr 0, .retAddr 0] [] [d0, d1, d2, 40, d4] M : Option (sm_S)) := rfl
    exact sm_blk (ρ := sm_S) (gd := (fun v => v = R)) (kx := 91) (i := 0) smVC rfl (by decide) ck91 (fun a D M v e1 e2 => by cases e1; exact e2.symm) (ll91_0 d0 d1 d2 40 d4 (by decide)) rfl (e.symm.trans h) rfl
  · have e : jK_firstWrong d0 d1 d2 50 d4 l1 M = (sm_run shC smSa cal91 c91 false (fun a D M => some (a, D, M)) (lf91_0 d0 d1 d2 50 d4) 69 (c91.drop 0) [.ref 31, .int l1, .retAddr 0, .retAddr 0, .retAddr 0, .retAddr 0] [] [d0, d1, d2, 50, d4] M : Option (sm_S)) := rfl
    exact sm_blk (ρ := sm_S) (gd := (fun v => v = R)) (kx := 91) (i := 0) smVC rfl (by decide) ck91 (fun a D M v e1 e2 => by cases e1; exact e2.symm) (ll91_0 d0 d1 d2 50 d4 (by decide)) rfl (e.symm.trans h) rfl
theorem m91 {d0 d1 d2 d3 d4 : Nat} (hd3 : [d3] ∈ gC) {l1 : Int32} {M : sm_M} {R : sm_S} (h : jK_firstWrong d0 d1 d2 d3 d4 l1 M = some R) : sm_MJ smT smCl smSa shC f91 5 [.ref 31, .int l1] [d0, d1, d2, d3, d4] M R :=
  sm_met (by decide) (Nat.le_of_ble_eq_true rfl) (List.all_eq_true.mp rfl) (we91 d0 d1 d2 d3 d4 hd3 h)

-- jK_verdictOn
noncomputable def cal89  : sm_Cal := fun x as D M =>
  if x = 90 then (match as, D with
    | [.ref 31], [e0, e1, e2, e3, e4] => (sm_ga [e3] gC (jK_beginsRight e0 e1 e2 e3 e4 M))
    | _, _ => none)
  else if x = 91 then (match as, D with
    | [.ref 31, .int a1], [e0, e1, e2, e3, e4] => (sm_ga [e3] gC (jK_firstWrong e0 e1 e2 e3 e4 a1 M))
    | _, _ => none)
  else if x = 160 then (match as with
    | [.ref 1, .int a1] => (jT_forgetFrom a1 D M)
    | _ => none)
  else none
theorem ck89  : sm_CalOk smT smCl smP smSa shC 6 cal89 := by
  intro x g as D M R hx h
  unfold cal89 at h
  by_cases hx' : x = 90
  · subst hx'
    rw [if_pos (show (90 : Nat) = 90 from rfl)] at h
    cases (show smP[90]? = some f90 from rfl).symm.trans hx
    split at h
    · replace h := sm_ga_inv h
      obtain ⟨h1, h⟩ := h
      exact Or.inl ⟨2, by omega, m90  h1 h⟩
    · cases h
  · rw [if_neg hx'] at h
    by_cases hx' : x = 91
    · subst hx'
      rw [if_pos (show (91 : Nat) = 91 from rfl)] at h
      cases (show smP[91]? = some f91 from rfl).symm.trans hx
      split at h
      · replace h := sm_ga_inv h
        obtain ⟨h1, h⟩ := h
        exact Or.inl ⟨5, by omega, m91  h1 h⟩
      · cases h
    · rw [if_neg hx'] at h
      by_cases hx' : x = 160
      · subst hx'
        rw [if_pos (show (160 : Nat) = 160 from rfl)] at h
        cases (show smP[160]? = some f160 from rfl).symm.trans hx
        split at h
        · skip
          exact Or.inl ⟨1, by omega, m160   h⟩
        · cases h
      · rw [if_neg hx'] at h
        cases h
def lh89_16 (p d0 d1 d2 d3 d4 : Nat) (R : sm_S) (s : Int32 × sm_M) : Prop := ∀ (g1 g3 g4 : Value), sm_WJ smT smCl smSa shC f89 6 16 [.ref 31, g1, .int (s.1), g3, g4] [] [d0, d1, d2, p, d4] (s.2) R
def gd89_16 (p d0 d1 d2 d3 d4 : Nat) (R : sm_S) (v : (Int32 × sm_M) ⊕ sm_S) : Prop := match v with
  | .inl s => lh89_16 p d0 d1 d2 d3 d4 R s
  | .inr r => r = R
noncomputable def lf89_16 (p d0 d1 d2 d3 d4 : Nat) : Nat → List Value → List Value → sm_D → sm_M → Option ((Int32 × sm_M) ⊕ sm_S) := fun pc ls st D' M =>
  if pc = 16 then (match ls, st with
    | [.ref 31, gl1, .int bl2, gl3, gl4], [] => (sm_dq D' [d0, d1, d2, p, d4] (some (.inl (bl2, M))))
    | _, _ => none)
  else none
theorem ll89_16 (p d0 d1 d2 d3 d4 : Nat) (hp : [p] ∈ gC) {R : sm_S} : ∀ (pc : Nat) (ls st : List Value) (D' : sm_D) (M : sm_M) (v : (Int32 × sm_M) ⊕ sm_S), (lf89_16 p d0 d1 d2 d3 d4) pc ls st D' M = some v → (gd89_16 p d0 d1 d2 d3 d4 R) v → sm_WJ smT smCl smSa shC f89 6 pc ls st D' M R := by
  intro pc ls st D' M v h hv
  unfold lf89_16 at h
  by_cases hp0 : pc = 16
  · subst hp0
    rw [if_pos (show (16 : Nat) = 16 from rfl)] at h
    split at h
    · skip
      replace h := sm_dq_inv h
      obtain ⟨he, h⟩ := h
      subst he
      cases h
      exact hv _ _ _
    · cases h
  · rw [if_neg hp0] at h
    cases h
set_option maxRecDepth 20000 in
set_option maxHeartbeats 4000000 in
theorem wc89_16 (p d0 d1 d2 d3 d4 : Nat) (hp : [p] ∈ gC) {l2 : Int32} {g1 g3 g4 : Value} {M : sm_M} {R : sm_S} {v : (Int32 × sm_M) ⊕ sm_S} (h : jK_verdictOn_16_c p d0 d1 d2 d3 d4 l2 M = some v) (hv : (gd89_16 p d0 d1 d2 d3 d4 R) v) : sm_WJ smT smCl smSa shC f89 6 16 [.ref 31, g1, .int l2, g3, g4] [] [d0, d1, d2, p, d4] M R := by
  rcases gC_inv hp with rfl | rfl
  · have e : jK_verdictOn_16_c 40 d0 d1 d2 d3 d4 l2 M = (sm_run shC smSa cal89 c89 false (fun a D M => some (.inr (a, D, M))) (lf89_16 40 d0 d1 d2 d3 d4) 45 (c89.drop 10) [.ref 31, g1, .int l2, g3, g4] [] [d0, d1, d2, 40, d4] M : Option ((Int32 × sm_M) ⊕ sm_S)) := rfl
    exact sm_blk (ρ := (Int32 × sm_M) ⊕ sm_S) (gd := (gd89_16 40 d0 d1 d2 d3 d4 R)) (kx := 89) (i := 10) smVC rfl (by decide) ck89 (fun a D M v e1 e2 => by cases e1; exact e2.symm) (ll89_16 40 d0 d1 d2 d3 d4 (by decide)) rfl (e.symm.trans h) hv
  · have e : jK_verdictOn_16_c 50 d0 d1 d2 d3 d4 l2 M = (sm_run shC smSa cal89 c89 false (fun a D M => some (.inr (a, D, M))) (lf89_16 50 d0 d1 d2 d3 d4) 45 (c89.drop 10) [.ref 31, g1, .int l2, g3, g4] [] [d0, d1, d2, 50, d4] M : Option ((Int32 × sm_M) ⊕ sm_S)) := rfl
    exact sm_blk (ρ := (Int32 × sm_M) ⊕ sm_S) (gd := (gd89_16 50 d0 d1 d2 d3 d4 R)) (kx := 89) (i := 10) smVC rfl (by decide) ck89 (fun a D M v e1 e2 => by cases e1; exact e2.symm) (ll89_16 50 d0 d1 d2 d3 d4 (by decide)) rfl (e.symm.trans h) hv
theorem w89_16 (p d0 d1 d2 d3 d4 : Nat) (hp : [p] ∈ gC) {l2 : Int32} {g1 g3 g4 : Value} {M : sm_M} {R : sm_S} (h : jK_verdictOn_16 p d0 d1 d2 d3 d4 l2 M = some R) : sm_WJ smT smCl smSa shC f89 6 16 [.ref 31, g1, .int l2, g3, g4] [] [d0, d1, d2, p, d4] M R := by
  have hh : lh89_16 p d0 d1 d2 d3 d4 R (l2, M) := by
    refine sm_lp_ind (b := jK_verdictOn_16_b p d0 d1 d2 d3 d4) (r := R) (lh89_16 p d0 d1 d2 d3 d4 R) ?_ h
    intro s v hb h1 h2
    obtain ⟨z0, M1⟩ := s
    have hv : gd89_16 p d0 d1 d2 d3 d4 R v := by
      cases v with
      | inl s' => exact h1 s' rfl
      | inr r => exact h2 r rfl
    intro g1 g3 g4
    exact wc89_16 p d0 d1 d2 d3 d4 hp hb hv
  exact hh _ _ _
noncomputable def lf89_0 (p d0 d1 d2 d3 d4 : Nat) : Nat → List Value → List Value → sm_D → sm_M → Option (sm_S) := fun pc ls st D' M =>
  if pc = 16 then (match ls, st with
    | [.ref 31, gl1, .int bl2, gl3, gl4], [] => (sm_dq D' [d0, d1, d2, p, d4] (jK_verdictOn_16 p d0 d1 d2 d3 d4 bl2 M))
    | _, _ => none)
  else none
theorem ll89_0 (p d0 d1 d2 d3 d4 : Nat) (hp : [p] ∈ gC) {R : sm_S} : ∀ (pc : Nat) (ls st : List Value) (D' : sm_D) (M : sm_M) (v : sm_S), (lf89_0 p d0 d1 d2 d3 d4) pc ls st D' M = some v → (fun v => v = R) v → sm_WJ smT smCl smSa shC f89 6 pc ls st D' M R := by
  intro pc ls st D' M v h hv
  unfold lf89_0 at h
  by_cases hp0 : pc = 16
  · subst hp0
    rw [if_pos (show (16 : Nat) = 16 from rfl)] at h
    split at h
    · skip
      replace h := sm_dq_inv h
      obtain ⟨he, h⟩ := h
      subst he
      have hv : v = R := hv
      subst hv
      exact w89_16 _ _ _ _ _ _ hp h
    · cases h
  · rw [if_neg hp0] at h
    cases h
set_option maxRecDepth 20000 in
set_option maxHeartbeats 4000000 in
theorem we89 (p d0 d1 d2 d3 d4 : Nat) (hp : [p] ∈ gC) {M : sm_M} {R : sm_S} (h : jK_verdictOn p d0 d1 d2 d3 d4 M = some R) : sm_WJ smT smCl smSa shC f89 6 0 [.ref 31, .ref p, .retAddr 0, .retAddr 0, .retAddr 0] [] [d0, d1, d2, d3, d4] M R := by
  rcases gC_inv hp with rfl | rfl
  · have e : jK_verdictOn 40 d0 d1 d2 d3 d4 M = (sm_run shC smSa cal89 c89 false (fun a D M => some (a, D, M)) (lf89_0 40 d0 d1 d2 d3 d4) 45 (c89.drop 0) [.ref 31, .ref 40, .retAddr 0, .retAddr 0, .retAddr 0] [] [d0, d1, d2, d3, d4] M : Option (sm_S)) := rfl
    exact sm_blk (ρ := sm_S) (gd := (fun v => v = R)) (kx := 89) (i := 0) smVC rfl (by decide) ck89 (fun a D M v e1 e2 => by cases e1; exact e2.symm) (ll89_0 40 d0 d1 d2 d3 d4 (by decide)) rfl (e.symm.trans h) rfl
  · have e : jK_verdictOn 50 d0 d1 d2 d3 d4 M = (sm_run shC smSa cal89 c89 false (fun a D M => some (a, D, M)) (lf89_0 50 d0 d1 d2 d3 d4) 45 (c89.drop 0) [.ref 31, .ref 50, .retAddr 0, .retAddr 0, .retAddr 0] [] [d0, d1, d2, d3, d4] M : Option (sm_S)) := rfl
    exact sm_blk (ρ := sm_S) (gd := (fun v => v = R)) (kx := 89) (i := 0) smVC rfl (by decide) ck89 (fun a D M v e1 e2 => by cases e1; exact e2.symm) (ll89_0 50 d0 d1 d2 d3 d4 (by decide)) rfl (e.symm.trans h) rfl
theorem m89 {p d0 d1 d2 d3 d4 : Nat} (hp : [p] ∈ gC) {M : sm_M} {R : sm_S} (h : jK_verdictOn p d0 d1 d2 d3 d4 M = some R) : sm_MJ smT smCl smSa shC f89 6 [.ref 31, .ref p] [d0, d1, d2, d3, d4] M R :=
  sm_met (by decide) (Nat.le_of_ble_eq_true rfl) (List.all_eq_true.mp rfl) (we89 p d0 d1 d2 d3 d4 hp h)

-- jA_check
noncomputable def cal8  : sm_Cal := fun x as D M =>
  if x = 89 then (match as, D with
    | [.ref 31, .ref q1], [e0, e1, e2, e3, e4] => (sm_ga [q1] gC (jK_verdictOn q1 e0 e1 e2 e3 e4 M))
    | _, _ => none)
  else none
theorem ck8  : sm_CalOk smT smCl smP smSa shC 7 cal8 := by
  intro x g as D M R hx h
  unfold cal8 at h
  by_cases hx' : x = 89
  · subst hx'
    rw [if_pos (show (89 : Nat) = 89 from rfl)] at h
    cases (show smP[89]? = some f89 from rfl).symm.trans hx
    split at h
    · replace h := sm_ga_inv h
      obtain ⟨h1, h⟩ := h
      exact Or.inl ⟨6, by omega, m89  h1 h⟩
    · cases h
  · rw [if_neg hx'] at h
    cases h
set_option maxRecDepth 20000 in
set_option maxHeartbeats 4000000 in
theorem we8 (d0 d1 d2 d3 d4 : Nat) (hd0 : [d0] ∈ gC) {M : sm_M} {R : sm_S} (h : jA_check d0 d1 d2 d3 d4 M = some R) : sm_WJ smT smCl smSa shC f8 7 0 [.ref 60] [] [d0, d1, d2, d3, d4] M R := by
  rcases gC_inv hd0 with rfl | rfl
  · have e : jA_check 40 d1 d2 d3 d4 M = (sm_run shC smSa cal8 c8 false (fun a D M => some (a, D, M)) sm_noleaf 19 (c8.drop 0) [.ref 60] [] [40, d1, d2, d3, d4] M : Option (sm_S)) := rfl
    exact sm_blk (ρ := sm_S) (gd := (fun v => v = R)) (kx := 8) (i := 0) smVC rfl (by decide) ck8 (fun a D M v e1 e2 => by cases e1; exact e2.symm) (sm_noleaf_ok) rfl (e.symm.trans h) rfl
  · have e : jA_check 50 d1 d2 d3 d4 M = (sm_run shC smSa cal8 c8 false (fun a D M => some (a, D, M)) sm_noleaf 19 (c8.drop 0) [.ref 60] [] [50, d1, d2, d3, d4] M : Option (sm_S)) := rfl
    exact sm_blk (ρ := sm_S) (gd := (fun v => v = R)) (kx := 8) (i := 0) smVC rfl (by decide) ck8 (fun a D M v e1 e2 => by cases e1; exact e2.symm) (sm_noleaf_ok) rfl (e.symm.trans h) rfl
theorem m8 {d0 d1 d2 d3 d4 : Nat} (hd0 : [d0] ∈ gC) {M : sm_M} {R : sm_S} (h : jA_check d0 d1 d2 d3 d4 M = some R) : sm_MJ smT smCl smSa shC f8 7 [.ref 60] [d0, d1, d2, d3, d4] M R :=
  sm_met (by decide) (Nat.le_of_ble_eq_true rfl) (List.all_eq_true.mp rfl) (we8 d0 d1 d2 d3 d4 hd0 h)

-- jC_tellInstruction
set_option maxRecDepth 20000 in
set_option maxHeartbeats 4000000 in
theorem w114_12 (p : Nat) (hp : [p] ∈ gC) {g0 g1 g2 : Value} {D : sm_D} {M : sm_M} {R : sm_S} (h : jC_tellInstruction_12 p D M = some R) : sm_WJ smT smCl smSa shC f114 0 12 [g0, g1, g2] [] D M R := by
  rcases gC_inv hp with rfl | rfl
  · have e : jC_tellInstruction_12 40 D M = (sm_run shC smSa sm_nocal c114 false (fun a D M => some (a, D, M)) sm_noleaf 37 (c114.drop 6) [g0, g1, g2] [] D M : Option (sm_S)) := rfl
    exact sm_blk (ρ := sm_S) (gd := (fun v => v = R)) (kx := 114) (i := 6) smVC rfl (by decide) (sm_nocal_ok smT smCl smP smSa shC 0) (fun a D M v e1 e2 => by cases e1; exact e2.symm) (sm_noleaf_ok) rfl (e.symm.trans h) rfl
  · have e : jC_tellInstruction_12 50 D M = (sm_run shC smSa sm_nocal c114 false (fun a D M => some (a, D, M)) sm_noleaf 37 (c114.drop 6) [g0, g1, g2] [] D M : Option (sm_S)) := rfl
    exact sm_blk (ρ := sm_S) (gd := (fun v => v = R)) (kx := 114) (i := 6) smVC rfl (by decide) (sm_nocal_ok smT smCl smP smSa shC 0) (fun a D M v e1 e2 => by cases e1; exact e2.symm) (sm_noleaf_ok) rfl (e.symm.trans h) rfl
noncomputable def lf114_0 (p : Nat) (D : sm_D) : Nat → List Value → List Value → sm_D → sm_M → Option (sm_S) := fun pc ls st D' M =>
  if pc = 12 then (match ls, st with
    | [gl0, gl1, gl2], [] => (jC_tellInstruction_12 p D' M)
    | _, _ => none)
  else none
theorem ll114_0 (p : Nat) (hp : [p] ∈ gC) (D : sm_D) {R : sm_S} : ∀ (pc : Nat) (ls st : List Value) (D' : sm_D) (M : sm_M) (v : sm_S), (lf114_0 p D) pc ls st D' M = some v → (fun v => v = R) v → sm_WJ smT smCl smSa shC f114 0 pc ls st D' M R := by
  intro pc ls st D' M v h hv
  unfold lf114_0 at h
  by_cases hp0 : pc = 12
  · subst hp0
    rw [if_pos (show (12 : Nat) = 12 from rfl)] at h
    split at h
    · skip
      have hv : v = R := hv
      subst hv
      exact w114_12 _ hp h
    · cases h
  · rw [if_neg hp0] at h
    cases h
set_option maxRecDepth 20000 in
set_option maxHeartbeats 4000000 in
theorem we114 (p : Nat) (hp : [p] ∈ gC) {l1 l2 : Int32} {D : sm_D} {M : sm_M} {R : sm_S} (h : jC_tellInstruction p l1 l2 D M = some R) : sm_WJ smT smCl smSa shC f114 0 0 [.ref p, .int l1, .int l2] [] D M R := by
  rcases gC_inv hp with rfl | rfl
  · have e : jC_tellInstruction 40 l1 l2 D M = (sm_run shC smSa sm_nocal c114 false (fun a D M => some (a, D, M)) (lf114_0 40 D) 37 (c114.drop 0) [.ref 40, .int l1, .int l2] [] D M : Option (sm_S)) := rfl
    exact sm_blk (ρ := sm_S) (gd := (fun v => v = R)) (kx := 114) (i := 0) smVC rfl (by decide) (sm_nocal_ok smT smCl smP smSa shC 0) (fun a D M v e1 e2 => by cases e1; exact e2.symm) (ll114_0 40 (by decide) D) rfl (e.symm.trans h) rfl
  · have e : jC_tellInstruction 50 l1 l2 D M = (sm_run shC smSa sm_nocal c114 false (fun a D M => some (a, D, M)) (lf114_0 50 D) 37 (c114.drop 0) [.ref 50, .int l1, .int l2] [] D M : Option (sm_S)) := rfl
    exact sm_blk (ρ := sm_S) (gd := (fun v => v = R)) (kx := 114) (i := 0) smVC rfl (by decide) (sm_nocal_ok smT smCl smP smSa shC 0) (fun a D M v e1 e2 => by cases e1; exact e2.symm) (ll114_0 50 (by decide) D) rfl (e.symm.trans h) rfl
theorem m114 {p : Nat} (hp : [p] ∈ gC) {l1 l2 : Int32} {D : sm_D} {M : sm_M} {R : sm_S} (h : jC_tellInstruction p l1 l2 D M = some R) : sm_MJ smT smCl smSa shC f114 0 [.ref p, .int l1, .int l2] D M R :=
  sm_met (by decide) (Nat.le_of_ble_eq_true rfl) (List.all_eq_true.mp rfl) (we114 p hp h)

-- jA_instruction
noncomputable def cal9  : sm_Cal := fun x as D M =>
  if x = 114 then (match as with
    | [.ref q0, .int a1, .int a2] => (sm_ga [q0] gC (jC_tellInstruction q0 a1 a2 D M))
    | _ => none)
  else none
theorem ck9  : sm_CalOk smT smCl smP smSa shC 1 cal9 := by
  intro x g as D M R hx h
  unfold cal9 at h
  by_cases hx' : x = 114
  · subst hx'
    rw [if_pos (show (114 : Nat) = 114 from rfl)] at h
    cases (show smP[114]? = some f114 from rfl).symm.trans hx
    split at h
    · replace h := sm_ga_inv h
      obtain ⟨h1, h⟩ := h
      exact Or.inl ⟨0, by omega, m114  h1 h⟩
    · cases h
  · rw [if_neg hx'] at h
    cases h
set_option maxRecDepth 20000 in
set_option maxHeartbeats 4000000 in
theorem we9 (d0 d1 d2 d3 d4 : Nat) (hd0 : [d0] ∈ gC) {l1 l2 : Int32} {M : sm_M} {R : sm_S} (h : jA_instruction d0 d1 d2 d3 d4 l1 l2 M = some R) : sm_WJ smT smCl smSa shC f9 1 0 [.ref 60, .int l1, .int l2] [] [d0, d1, d2, d3, d4] M R := by
  rcases gC_inv hd0 with rfl | rfl
  · have e : jA_instruction 40 d1 d2 d3 d4 l1 l2 M = (sm_run shC smSa cal9 c9 false (fun a D M => some (a, D, M)) sm_noleaf 11 (c9.drop 0) [.ref 60, .int l1, .int l2] [] [40, d1, d2, d3, d4] M : Option (sm_S)) := rfl
    exact sm_blk (ρ := sm_S) (gd := (fun v => v = R)) (kx := 9) (i := 0) smVC rfl (by decide) ck9 (fun a D M v e1 e2 => by cases e1; exact e2.symm) (sm_noleaf_ok) rfl (e.symm.trans h) rfl
  · have e : jA_instruction 50 d1 d2 d3 d4 l1 l2 M = (sm_run shC smSa cal9 c9 false (fun a D M => some (a, D, M)) sm_noleaf 11 (c9.drop 0) [.ref 60, .int l1, .int l2] [] [50, d1, d2, d3, d4] M : Option (sm_S)) := rfl
    exact sm_blk (ρ := sm_S) (gd := (fun v => v = R)) (kx := 9) (i := 0) smVC rfl (by decide) ck9 (fun a D M v e1 e2 => by cases e1; exact e2.symm) (sm_noleaf_ok) rfl (e.symm.trans h) rfl
theorem m9 {d0 d1 d2 d3 d4 : Nat} (hd0 : [d0] ∈ gC) {l1 l2 : Int32} {M : sm_M} {R : sm_S} (h : jA_instruction d0 d1 d2 d3 d4 l1 l2 M = some R) : sm_MJ smT smCl smSa shC f9 1 [.ref 60, .int l1, .int l2] [d0, d1, d2, d3, d4] M R :=
  sm_met (by decide) (Nat.le_of_ble_eq_true rfl) (List.all_eq_true.mp rfl) (we9 d0 d1 d2 d3 d4 hd0 h)

-- jC_tellBlock
noncomputable def cal115  : sm_Cal := fun x as D M =>
  if x = 104 then (match as with
    | [.ref q0, .int a1] => (sm_ga [q0] gC (jC_hasBlock q0 a1 D M))
    | _ => none)
  else none
theorem ck115  : sm_CalOk smT smCl smP smSa shC 1 cal115 := by
  intro x g as D M R hx h
  unfold cal115 at h
  by_cases hx' : x = 104
  · subst hx'
    rw [if_pos (show (104 : Nat) = 104 from rfl)] at h
    cases (show smP[104]? = some f104 from rfl).symm.trans hx
    split at h
    · replace h := sm_ga_inv h
      obtain ⟨h1, h⟩ := h
      exact Or.inl ⟨0, by omega, m104  h1 h⟩
    · cases h
  · rw [if_neg hx'] at h
    cases h
set_option maxRecDepth 20000 in
set_option maxHeartbeats 4000000 in
theorem w115_58 (p : Nat) (hp : [p] ∈ gC) {l1 l2 : Int32} {D : sm_D} {M : sm_M} {R : sm_S} (h : jC_tellBlock_58 p l1 l2 D M = some R) : sm_WJ smT smCl smSa shC f115 1 58 [.ref p, .int l1, .int l2] [] D M R := by
  rcases gC_inv hp with rfl | rfl
  · have e : jC_tellBlock_58 40 l1 l2 D M = (sm_run shC smSa cal115 c115 false (fun a D M => some (a, D, M)) sm_noleaf 36 (c115.drop 18) [.ref 40, .int l1, .int l2] [] D M : Option (sm_S)) := rfl
    exact sm_blk (ρ := sm_S) (gd := (fun v => v = R)) (kx := 115) (i := 18) smVC rfl (by decide) ck115 (fun a D M v e1 e2 => by cases e1; exact e2.symm) (sm_noleaf_ok) rfl (e.symm.trans h) rfl
  · have e : jC_tellBlock_58 50 l1 l2 D M = (sm_run shC smSa cal115 c115 false (fun a D M => some (a, D, M)) sm_noleaf 36 (c115.drop 18) [.ref 50, .int l1, .int l2] [] D M : Option (sm_S)) := rfl
    exact sm_blk (ρ := sm_S) (gd := (fun v => v = R)) (kx := 115) (i := 18) smVC rfl (by decide) ck115 (fun a D M v e1 e2 => by cases e1; exact e2.symm) (sm_noleaf_ok) rfl (e.symm.trans h) rfl
noncomputable def lf115_0 (p : Nat) (D : sm_D) : Nat → List Value → List Value → sm_D → sm_M → Option (sm_S) := fun pc ls st D' M =>
  if pc = 58 then (match ls, st with
    | [.ref rl0, .int bl1, .int bl2], [] => (sm_eqp rl0 p (jC_tellBlock_58 p bl1 bl2 D' M))
    | _, _ => none)
  else none
theorem ll115_0 (p : Nat) (hp : [p] ∈ gC) (D : sm_D) {R : sm_S} : ∀ (pc : Nat) (ls st : List Value) (D' : sm_D) (M : sm_M) (v : sm_S), (lf115_0 p D) pc ls st D' M = some v → (fun v => v = R) v → sm_WJ smT smCl smSa shC f115 1 pc ls st D' M R := by
  intro pc ls st D' M v h hv
  unfold lf115_0 at h
  by_cases hp0 : pc = 58
  · subst hp0
    rw [if_pos (show (58 : Nat) = 58 from rfl)] at h
    split at h
    · skip
      replace h := sm_eqp_inv h
      obtain ⟨he, h⟩ := h
      subst he
      have hv : v = R := hv
      subst hv
      exact w115_58 _ hp h
    · cases h
  · rw [if_neg hp0] at h
    cases h
set_option maxRecDepth 20000 in
set_option maxHeartbeats 4000000 in
theorem we115 (p : Nat) (hp : [p] ∈ gC) {l1 l2 : Int32} {D : sm_D} {M : sm_M} {R : sm_S} (h : jC_tellBlock p l1 l2 D M = some R) : sm_WJ smT smCl smSa shC f115 1 0 [.ref p, .int l1, .int l2] [] D M R := by
  rcases gC_inv hp with rfl | rfl
  · have e : jC_tellBlock 40 l1 l2 D M = (sm_run shC smSa cal115 c115 false (fun a D M => some (a, D, M)) (lf115_0 40 D) 36 (c115.drop 0) [.ref 40, .int l1, .int l2] [] D M : Option (sm_S)) := rfl
    exact sm_blk (ρ := sm_S) (gd := (fun v => v = R)) (kx := 115) (i := 0) smVC rfl (by decide) ck115 (fun a D M v e1 e2 => by cases e1; exact e2.symm) (ll115_0 40 (by decide) D) rfl (e.symm.trans h) rfl
  · have e : jC_tellBlock 50 l1 l2 D M = (sm_run shC smSa cal115 c115 false (fun a D M => some (a, D, M)) (lf115_0 50 D) 36 (c115.drop 0) [.ref 50, .int l1, .int l2] [] D M : Option (sm_S)) := rfl
    exact sm_blk (ρ := sm_S) (gd := (fun v => v = R)) (kx := 115) (i := 0) smVC rfl (by decide) ck115 (fun a D M v e1 e2 => by cases e1; exact e2.symm) (ll115_0 50 (by decide) D) rfl (e.symm.trans h) rfl
theorem m115 {p : Nat} (hp : [p] ∈ gC) {l1 l2 : Int32} {D : sm_D} {M : sm_M} {R : sm_S} (h : jC_tellBlock p l1 l2 D M = some R) : sm_MJ smT smCl smSa shC f115 1 [.ref p, .int l1, .int l2] D M R :=
  sm_met (by decide) (Nat.le_of_ble_eq_true rfl) (List.all_eq_true.mp rfl) (we115 p hp h)

-- jA_look
noncomputable def cal10  : sm_Cal := fun x as D M =>
  if x = 115 then (match as with
    | [.ref q0, .int a1, .int a2] => (sm_ga [q0] gC (jC_tellBlock q0 a1 a2 D M))
    | _ => none)
  else none
theorem ck10  : sm_CalOk smT smCl smP smSa shC 2 cal10 := by
  intro x g as D M R hx h
  unfold cal10 at h
  by_cases hx' : x = 115
  · subst hx'
    rw [if_pos (show (115 : Nat) = 115 from rfl)] at h
    cases (show smP[115]? = some f115 from rfl).symm.trans hx
    split at h
    · replace h := sm_ga_inv h
      obtain ⟨h1, h⟩ := h
      exact Or.inl ⟨1, by omega, m115  h1 h⟩
    · cases h
  · rw [if_neg hx'] at h
    cases h
set_option maxRecDepth 20000 in
set_option maxHeartbeats 4000000 in
theorem we10 (d0 d1 d2 d3 d4 : Nat) (hd0 : [d0] ∈ gC) {l1 l2 : Int32} {M : sm_M} {R : sm_S} (h : jA_look d0 d1 d2 d3 d4 l1 l2 M = some R) : sm_WJ smT smCl smSa shC f10 2 0 [.ref 60, .int l1, .int l2] [] [d0, d1, d2, d3, d4] M R := by
  rcases gC_inv hd0 with rfl | rfl
  · have e : jA_look 40 d1 d2 d3 d4 l1 l2 M = (sm_run shC smSa cal10 c10 false (fun a D M => some (a, D, M)) sm_noleaf 11 (c10.drop 0) [.ref 60, .int l1, .int l2] [] [40, d1, d2, d3, d4] M : Option (sm_S)) := rfl
    exact sm_blk (ρ := sm_S) (gd := (fun v => v = R)) (kx := 10) (i := 0) smVC rfl (by decide) ck10 (fun a D M v e1 e2 => by cases e1; exact e2.symm) (sm_noleaf_ok) rfl (e.symm.trans h) rfl
  · have e : jA_look 50 d1 d2 d3 d4 l1 l2 M = (sm_run shC smSa cal10 c10 false (fun a D M => some (a, D, M)) sm_noleaf 11 (c10.drop 0) [.ref 60, .int l1, .int l2] [] [50, d1, d2, d3, d4] M : Option (sm_S)) := rfl
    exact sm_blk (ρ := sm_S) (gd := (fun v => v = R)) (kx := 10) (i := 0) smVC rfl (by decide) ck10 (fun a D M v e1 e2 => by cases e1; exact e2.symm) (sm_noleaf_ok) rfl (e.symm.trans h) rfl
theorem m10 {d0 d1 d2 d3 d4 : Nat} (hd0 : [d0] ∈ gC) {l1 l2 : Int32} {M : sm_M} {R : sm_S} (h : jA_look d0 d1 d2 d3 d4 l1 l2 M = some R) : sm_MJ smT smCl smSa shC f10 2 [.ref 60, .int l1, .int l2] [d0, d1, d2, d3, d4] M R :=
  sm_met (by decide) (Nat.le_of_ble_eq_true rfl) (List.all_eq_true.mp rfl) (we10 d0 d1 d2 d3 d4 hd0 h)

-- jM_stop
set_option maxRecDepth 20000 in
set_option maxHeartbeats 4000000 in
theorem we142 {l1 : Int32} {D : sm_D} {M : sm_M} {R : sm_S} (h : jM_stop l1 D M = some R) : sm_WJ smT smCl smSa shC f142 0 0 [.ref 33, .int l1] [] D M R := by
  have e : jM_stop l1 D M = (sm_run shC smSa sm_nocal c142 true (fun a D M => some (a, D, M)) sm_noleaf 10 (c142.drop 0) [.ref 33, .int l1] [] D M : Option (sm_S)) := rfl
  exact sm_blk (ρ := sm_S) (gd := (fun v => v = R)) (kx := 142) (i := 0) smVC rfl (by decide) (sm_nocal_ok smT smCl smP smSa shC 0) (fun a D M v e1 e2 => by cases e1; exact e2.symm) (sm_noleaf_ok) rfl (e.symm.trans h) rfl
theorem m142 {l1 : Int32} {D : sm_D} {M : sm_M} {R : sm_S} (h : jM_stop l1 D M = some R) : sm_MJ smT smCl smSa shC f142 0 [.ref 33, .int l1] D M R :=
  sm_met (by decide) (Nat.le_of_ble_eq_true rfl) (List.all_eq_true.mp rfl) (we142  h)

-- jM_become
set_option maxRecDepth 20000 in
set_option maxHeartbeats 4000000 in
theorem we143 {l1 l2 l3 : Int32} {D : sm_D} {M : sm_M} {R : sm_S} (h : jM_become l1 l2 l3 D M = some R) : sm_WJ smT smCl smSa shC f143 0 0 [.ref 33, .int l1, .int l2, .int l3] [] D M R := by
  have e : jM_become l1 l2 l3 D M = (sm_run shC smSa sm_nocal c143 true (fun a D M => some (a, D, M)) sm_noleaf 23 (c143.drop 0) [.ref 33, .int l1, .int l2, .int l3] [] D M : Option (sm_S)) := rfl
  exact sm_blk (ρ := sm_S) (gd := (fun v => v = R)) (kx := 143) (i := 0) smVC rfl (by decide) (sm_nocal_ok smT smCl smP smSa shC 0) (fun a D M v e1 e2 => by cases e1; exact e2.symm) (sm_noleaf_ok) rfl (e.symm.trans h) rfl
theorem m143 {l1 l2 l3 : Int32} {D : sm_D} {M : sm_M} {R : sm_S} (h : jM_become l1 l2 l3 D M = some R) : sm_MJ smT smCl smSa shC f143 0 [.ref 33, .int l1, .int l2, .int l3] D M R :=
  sm_met (by decide) (Nat.le_of_ble_eq_true rfl) (List.all_eq_true.mp rfl) (we143  h)

