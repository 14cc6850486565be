-- jV_ofCall
noncomputable def cal132 (rec : Int32 → Int32 → Int32 → sm_D → sm_M → Option sm_S) : sm_Cal := fun x as D M =>
  if x = 128 then (match as with
    | [.ref 18, .int a1, .int a2, .int a3] => (rec a1 a2 a3 D M)
    | _ => none)
  else none
theorem ck132 (rec : Int32 → Int32 → Int32 → sm_D → sm_M → Option sm_S) (dr : Nat) (hrec : ∀ (l1 l2 l3 : Int32) (D : sm_D) (M : sm_M) (R : sm_S), rec l1 l2 l3 D M = some R → sm_MJ smT smCl smSa shC f128 dr [.ref 18, .int l1, .int l2, .int l3] D M R) : sm_CalOk smT smCl smP smSa shC (dr + 1) (cal132 rec) := by
  intro x g as D M R hx h
  unfold cal132 at h
  split at h
  · rename_i hx'
    subst hx'
    cases (show smP[128]? = some f128 from rfl).symm.trans hx
    split at h
    · skip
      exact Or.inl ⟨dr, by omega, hrec _ _ _ _ _ _  h⟩
    · cases h
  · skip
    cases h
set_option maxRecDepth 20000 in
set_option maxHeartbeats 4000000 in
theorem w132_66 (rec : Int32 → Int32 → Int32 → sm_D → sm_M → Option sm_S) (dr : Nat) (hrec : ∀ (l1 l2 l3 : Int32) (D : sm_D) (M : sm_M) (R : sm_S), rec l1 l2 l3 D M = some R → sm_MJ smT smCl smSa shC f128 dr [.ref 18, .int l1, .int l2, .int l3] D M R) {g0 g1 g2 g3 g4 g5 g6 : Value} {D : sm_D} {M : sm_M} {R : sm_S} (h : jV_ofCall_66 rec D M = some R) : sm_WJ smT smCl smSa shC f132 (dr + 1) 66 [g0, g1, g2, g3, g4, g5, g6] [] D M R := by
  have e : jV_ofCall_66 rec D M = (sm_run shC smSa (cal132 rec) c132 false (fun a D M => some (a, D, M)) sm_noleaf 78 (c132.drop 37) [g0, g1, g2, g3, g4, g5, g6] [] D M : Option (sm_S)) := rfl
  exact sm_blk (ρ := sm_S) (gd := (fun v => v = R)) (kx := 132) (i := 37) smVC rfl (by decide) (ck132 rec dr hrec) (fun a D M v e1 e2 => by cases e1; exact e2.symm) (sm_noleaf_ok) rfl (e.symm.trans h) rfl
noncomputable def lf132_0 (rec : Int32 → Int32 → Int32 → sm_D → sm_M → Option sm_S) (D : sm_D) : Nat → List Value → List Value → sm_D → sm_M → Option (sm_S) := fun pc ls st D' M =>
  if pc = 66 then (match ls, st with
    | [gl0, gl1, gl2, gl3, gl4, gl5, gl6], [] => (jV_ofCall_66 rec D' M)
    | _, _ => none)
  else none
theorem ll132_0 (rec : Int32 → Int32 → Int32 → sm_D → sm_M → Option sm_S) (dr : Nat) (hrec : ∀ (l1 l2 l3 : Int32) (D : sm_D) (M : sm_M) (R : sm_S), rec l1 l2 l3 D M = some R → sm_MJ smT smCl smSa shC f128 dr [.ref 18, .int l1, .int l2, .int l3] D M R) (D : sm_D) {R : sm_S} : ∀ (pc : Nat) (ls st : List Value) (D' : sm_D) (M : sm_M) (v : sm_S), (lf132_0 rec D) pc ls st D' M = some v → (fun v => v = R) v → sm_WJ smT smCl smSa shC f132 (dr + 1) pc ls st D' M R := by
  intro pc ls st D' M v h hv
  unfold lf132_0 at h
  split at h
  · rename_i hp0
    subst hp0
    split at h
    · skip
      have hv : v = R := hv
      subst hv
      exact w132_66 rec dr hrec h
    · cases h
  · skip
    cases h
set_option maxRecDepth 20000 in
set_option maxHeartbeats 4000000 in
theorem we132 (rec : Int32 → Int32 → Int32 → sm_D → sm_M → Option sm_S) (dr : Nat) (hrec : ∀ (l1 l2 l3 : Int32) (D : sm_D) (M : sm_M) (R : sm_S), rec l1 l2 l3 D M = some R → sm_MJ smT smCl smSa shC f128 dr [.ref 18, .int l1, .int l2, .int l3] D M R) {l1 l2 l3 : Int32} {D : sm_D} {M : sm_M} {R : sm_S} (h : jV_ofCall rec l1 l2 l3 D M = some R) : sm_WJ smT smCl smSa shC f132 (dr + 1) 0 [.ref 18, .int l1, .int l2, .int l3, .retAddr 0, .retAddr 0, .retAddr 0] [] D M R := by
  have e : jV_ofCall rec l1 l2 l3 D M = (sm_run shC smSa (cal132 rec) c132 false (fun a D M => some (a, D, M)) (lf132_0 rec D) 78 (c132.drop 0) [.ref 18, .int l1, .int l2, .int l3, .retAddr 0, .retAddr 0, .retAddr 0] [] D M : Option (sm_S)) := rfl
  exact sm_blk (ρ := sm_S) (gd := (fun v => v = R)) (kx := 132) (i := 0) smVC rfl (by decide) (ck132 rec dr hrec) (fun a D M v e1 e2 => by cases e1; exact e2.symm) (ll132_0 rec dr hrec D) rfl (e.symm.trans h) rfl
theorem m132 (rec : Int32 → Int32 → Int32 → sm_D → sm_M → Option sm_S) (dr : Nat) (hrec : ∀ (l1 l2 l3 : Int32) (D : sm_D) (M : sm_M) (R : sm_S), rec l1 l2 l3 D M = some R → sm_MJ smT smCl smSa shC f128 dr [.ref 18, .int l1, .int l2, .int l3] D M R) {l1 l2 l3 : Int32} {D : sm_D} {M : sm_M} {R : sm_S} (h : jV_ofCall rec l1 l2 l3 D M = some R) : sm_MJ smT smCl smSa shC f132 (dr + 1) [.ref 18, .int l1, .int l2, .int l3] D M R :=
  sm_met (by decide) (Nat.le_of_ble_eq_true rfl) (List.all_eq_true.mp rfl) (we132 rec dr hrec h)

-- jV_ofPart
noncomputable def cal133 (rec : Int32 → Int32 → Int32 → sm_D → sm_M → Option sm_S) : sm_Cal := fun x as D M =>
  if x = 128 then (match as with
    | [.ref 18, .int a1, .int a2, .int a3] => (rec a1 a2 a3 D M)
    | _ => none)
  else none
theorem ck133 (rec : Int32 → Int32 → Int32 → sm_D → sm_M → Option sm_S) (dr : Nat) (hrec : ∀ (l1 l2 l3 : Int32) (D : sm_D) (M : sm_M) (R : sm_S), rec l1 l2 l3 D M = some R → sm_MJ smT smCl smSa shC f128 dr [.ref 18, .int l1, .int l2, .int l3] D M R) : sm_CalOk smT smCl smP smSa shC (dr + 1) (cal133 rec) := by
  intro x g as D M R hx h
  unfold cal133 at h
  split at h
  · rename_i hx'
    subst hx'
    cases (show smP[128]? = some f128 from rfl).symm.trans hx
    split at h
    · skip
      exact Or.inl ⟨dr, by omega, hrec _ _ _ _ _ _  h⟩
    · cases h
  · skip
    cases h
set_option maxRecDepth 20000 in
set_option maxHeartbeats 4000000 in
theorem w133_37 (rec : Int32 → Int32 → Int32 → sm_D → sm_M → Option sm_S) (dr : Nat) (hrec : ∀ (l1 l2 l3 : Int32) (D : sm_D) (M : sm_M) (R : sm_S), rec l1 l2 l3 D M = some R → sm_MJ smT smCl smSa shC f128 dr [.ref 18, .int l1, .int l2, .int l3] D M R) {g0 g1 g2 g3 g4 : Value} {D : sm_D} {M : sm_M} {R : sm_S} (h : jV_ofPart_37 rec D M = some R) : sm_WJ smT smCl smSa shC f133 (dr + 1) 37 [g0, g1, g2, g3, g4] [] D M R := by
  have e : jV_ofPart_37 rec D M = (sm_run shC smSa (cal133 rec) c133 false (fun a D M => some (a, D, M)) sm_noleaf 45 (c133.drop 21) [g0, g1, g2, g3, g4] [] D M : Option (sm_S)) := rfl
  exact sm_blk (ρ := sm_S) (gd := (fun v => v = R)) (kx := 133) (i := 21) smVC rfl (by decide) (ck133 rec dr hrec) (fun a D M v e1 e2 => by cases e1; exact e2.symm) (sm_noleaf_ok) rfl (e.symm.trans h) rfl
set_option maxRecDepth 20000 in
set_option maxHeartbeats 4000000 in
theorem w133_70 (rec : Int32 → Int32 → Int32 → sm_D → sm_M → Option sm_S) (dr : Nat) (hrec : ∀ (l1 l2 l3 : Int32) (D : sm_D) (M : sm_M) (R : sm_S), rec l1 l2 l3 D M = some R → sm_MJ smT smCl smSa shC f128 dr [.ref 18, .int l1, .int l2, .int l3] D M R) {s0 : Int32} {g0 g1 g2 g3 g4 : Value} {D : sm_D} {M : sm_M} {R : sm_S} (h : jV_ofPart_70 rec s0 D M = some R) : sm_WJ smT smCl smSa shC f133 (dr + 1) 70 [g0, g1, g2, g3, g4] [.int s0] D M R := by
  have e : jV_ofPart_70 rec s0 D M = (sm_run shC smSa (cal133 rec) c133 false (fun a D M => some (a, D, M)) sm_noleaf 45 (c133.drop 39) [g0, g1, g2, g3, g4] [.int s0] D M : Option (sm_S)) := rfl
  exact sm_blk (ρ := sm_S) (gd := (fun v => v = R)) (kx := 133) (i := 39) smVC rfl (by decide) (ck133 rec dr hrec) (fun a D M v e1 e2 => by cases e1; exact e2.symm) (sm_noleaf_ok) rfl (e.symm.trans h) rfl
noncomputable def lf133_0 (rec : Int32 → Int32 → Int32 → sm_D → sm_M → Option sm_S) (D : sm_D) : Nat → List Value → List Value → sm_D → sm_M → Option (sm_S) := fun pc ls st D' M =>
  if pc = 37 then (match ls, st with
    | [gl0, gl1, gl2, gl3, gl4], [] => (jV_ofPart_37 rec D' M)
    | _, _ => none)
  else if pc = 70 then (match ls, st with
    | [gl0, gl1, gl2, gl3, gl4], [.int bs0] => (jV_ofPart_70 rec bs0 D' M)
    | _, _ => none)
  else none
theorem ll133_0 (rec : Int32 → Int32 → Int32 → sm_D → sm_M → Option sm_S) (dr : Nat) (hrec : ∀ (l1 l2 l3 : Int32) (D : sm_D) (M : sm_M) (R : sm_S), rec l1 l2 l3 D M = some R → sm_MJ smT smCl smSa shC f128 dr [.ref 18, .int l1, .int l2, .int l3] D M R) (D : sm_D) {R : sm_S} : ∀ (pc : Nat) (ls st : List Value) (D' : sm_D) (M : sm_M) (v : sm_S), (lf133_0 rec D) pc ls st D' M = some v → (fun v => v = R) v → sm_WJ smT smCl smSa shC f133 (dr + 1) pc ls st D' M R := by
  intro pc ls st D' M v h hv
  unfold lf133_0 at h
  split at h
  · rename_i hp0
    subst hp0
    split at h
    · skip
      have hv : v = R := hv
      subst hv
      exact w133_37 rec dr hrec h
    · cases h
  · skip
    split at h
    · rename_i hp0
      subst hp0
      split at h
      · skip
        have hv : v = R := hv
        subst hv
        exact w133_70 rec dr hrec h
      · cases h
    · skip
      cases h
set_option maxRecDepth 20000 in
set_option maxHeartbeats 4000000 in
theorem we133 (rec : Int32 → Int32 → Int32 → sm_D → sm_M → Option sm_S) (dr : Nat) (hrec : ∀ (l1 l2 l3 : Int32) (D : sm_D) (M : sm_M) (R : sm_S), rec l1 l2 l3 D M = some R → sm_MJ smT smCl smSa shC f128 dr [.ref 18, .int l1, .int l2, .int l3] D M R) {l1 l2 l3 : Int32} {D : sm_D} {M : sm_M} {R : sm_S} (h : jV_ofPart rec l1 l2 l3 D M = some R) : sm_WJ smT smCl smSa shC f133 (dr + 1) 0 [.ref 18, .int l1, .int l2, .int l3, .retAddr 0] [] D M R := by
  have e : jV_ofPart rec l1 l2 l3 D M = (sm_run shC smSa (cal133 rec) c133 false (fun a D M => some (a, D, M)) (lf133_0 rec D) 45 (c133.drop 0) [.ref 18, .int l1, .int l2, .int l3, .retAddr 0] [] D M : Option (sm_S)) := rfl
  exact sm_blk (ρ := sm_S) (gd := (fun v => v = R)) (kx := 133) (i := 0) smVC rfl (by decide) (ck133 rec dr hrec) (fun a D M v e1 e2 => by cases e1; exact e2.symm) (ll133_0 rec dr hrec D) rfl (e.symm.trans h) rfl
theorem m133 (rec : Int32 → Int32 → Int32 → sm_D → sm_M → Option sm_S) (dr : Nat) (hrec : ∀ (l1 l2 l3 : Int32) (D : sm_D) (M : sm_M) (R : sm_S), rec l1 l2 l3 D M = some R → sm_MJ smT smCl smSa shC f128 dr [.ref 18, .int l1, .int l2, .int l3] D M R) {l1 l2 l3 : Int32} {D : sm_D} {M : sm_M} {R : sm_S} (h : jV_ofPart rec l1 l2 l3 D M = some R) : sm_MJ smT smCl smSa shC f133 (dr + 1) [.ref 18, .int l1, .int l2, .int l3] D M R :=
  sm_met (by decide) (Nat.le_of_ble_eq_true rfl) (List.all_eq_true.mp rfl) (we133 rec dr hrec h)

-- jV_ofTwo
noncomputable def cal134 (rec : Int32 → Int32 → Int32 → sm_D → sm_M → Option sm_S) : sm_Cal := fun x as D M =>
  if x = 128 then (match as with
    | [.ref 18, .int a1, .int a2, .int a3] => (rec a1 a2 a3 D M)
    | _ => none)
  else if x = 129 then (match as with
    | [.ref 18, .int a1, .int a2, .int a3] => (jV_value a1 a2 a3 D M)
    | _ => none)
  else none
theorem ck134 (rec : Int32 → Int32 → Int32 → sm_D → sm_M → Option sm_S) (dr : Nat) (hrec : ∀ (l1 l2 l3 : Int32) (D : sm_D) (M : sm_M) (R : sm_S), rec l1 l2 l3 D M = some R → sm_MJ smT smCl smSa shC f128 dr [.ref 18, .int l1, .int l2, .int l3] D M R) : sm_CalOk smT smCl smP smSa shC (dr + 1) (cal134 rec) := by
  intro x g as D M R hx h
  unfold cal134 at h
  split at h
  · rename_i hx'
    subst hx'
    cases (show smP[128]? = some f128 from rfl).symm.trans hx
    split at h
    · skip
      exact Or.inl ⟨dr, by omega, hrec _ _ _ _ _ _  h⟩
    · cases h
  · skip
    split at h
    · rename_i hx'
      subst hx'
      cases (show smP[129]? = some f129 from rfl).symm.trans hx
      split at h
      · skip
        exact Or.inl ⟨0, by omega, m129   h⟩
      · cases h
    · skip
      cases h
set_option maxRecDepth 20000 in
set_option maxHeartbeats 4000000 in
theorem we134 (rec : Int32 → Int32 → Int32 → sm_D → sm_M → Option sm_S) (dr : Nat) (hrec : ∀ (l1 l2 l3 : Int32) (D : sm_D) (M : sm_M) (R : sm_S), rec l1 l2 l3 D M = some R → sm_MJ smT smCl smSa shC f128 dr [.ref 18, .int l1, .int l2, .int l3] D M R) {l1 l2 l3 : Int32} {D : sm_D} {M : sm_M} {R : sm_S} (h : jV_ofTwo rec l1 l2 l3 D M = some R) : sm_WJ smT smCl smSa shC f134 (dr + 1) 0 [.ref 18, .int l1, .int l2, .int l3, .retAddr 0, .retAddr 0] [] D M R := by
  have e : jV_ofTwo rec l1 l2 l3 D M = (sm_run shC smSa (cal134 rec) c134 false (fun a D M => some (a, D, M)) sm_noleaf 88 (c134.drop 0) [.ref 18, .int l1, .int l2, .int l3, .retAddr 0, .retAddr 0] [] D M : Option (sm_S)) := rfl
  exact sm_blk (ρ := sm_S) (gd := (fun v => v = R)) (kx := 134) (i := 0) smVC rfl (by decide) (ck134 rec dr hrec) (fun a D M v e1 e2 => by cases e1; exact e2.symm) (sm_noleaf_ok) rfl (e.symm.trans h) rfl
theorem m134 (rec : Int32 → Int32 → Int32 → sm_D → sm_M → Option sm_S) (dr : Nat) (hrec : ∀ (l1 l2 l3 : Int32) (D : sm_D) (M : sm_M) (R : sm_S), rec l1 l2 l3 D M = some R → sm_MJ smT smCl smSa shC f128 dr [.ref 18, .int l1, .int l2, .int l3] D M R) {l1 l2 l3 : Int32} {D : sm_D} {M : sm_M} {R : sm_S} (h : jV_ofTwo rec l1 l2 l3 D M = some R) : sm_MJ smT smCl smSa shC f134 (dr + 1) [.ref 18, .int l1, .int l2, .int l3] D M R :=
  sm_met (by decide) (Nat.le_of_ble_eq_true rfl) (List.all_eq_true.mp rfl) (we134 rec dr hrec h)

-- jV_find
noncomputable def cal128 (rec : Int32 → Int32 → Int32 → sm_D → sm_M → Option sm_S) : sm_Cal := fun x as D M =>
  if x = 129 then (match as with
    | [.ref 18, .int a1, .int a2, .int a3] => (jV_value a1 a2 a3 D M)
    | _ => none)
  else if x = 130 then (match as with
    | [.ref 18, .int a1, .int a2] => (jV_ofVariable a1 a2 D M)
    | _ => none)
  else if x = 131 then (match as with
    | [.ref 18, .int a1, .int a2, .int a3] => (jV_ofChoice rec a1 a2 a3 D M)
    | _ => none)
  else if x = 132 then (match as with
    | [.ref 18, .int a1, .int a2, .int a3] => (jV_ofCall rec a1 a2 a3 D M)
    | _ => none)
  else if x = 133 then (match as with
    | [.ref 18, .int a1, .int a2, .int a3] => (jV_ofPart rec a1 a2 a3 D M)
    | _ => none)
  else if x = 134 then (match as with
    | [.ref 18, .int a1, .int a2, .int a3] => (jV_ofTwo rec a1 a2 a3 D M)
    | _ => none)
  else none
theorem ck128 (rec : Int32 → Int32 → Int32 → sm_D → sm_M → Option sm_S) (dr : Nat) (hrec : ∀ (l1 l2 l3 : Int32) (D : sm_D) (M : sm_M) (R : sm_S), rec l1 l2 l3 D M = some R → sm_MJ smT smCl smSa shC f128 dr [.ref 18, .int l1, .int l2, .int l3] D M R) : sm_CalOk smT smCl smP smSa shC (dr + 2) (cal128 rec) := by
  intro x g as D M R hx h
  unfold cal128 at h
  split at h
  · rename_i hx'
    subst hx'
    cases (show smP[129]? = some f129 from rfl).symm.trans hx
    split at h
    · skip
      exact Or.inl ⟨0, by omega, m129   h⟩
    · cases h
  · skip
    split at h
    · rename_i hx'
      subst hx'
      cases (show smP[130]? = some f130 from rfl).symm.trans hx
      split at h
      · skip
        exact Or.inl ⟨0, by omega, m130   h⟩
      · cases h
    · skip
      split at h
      · rename_i hx'
        subst hx'
        cases (show smP[131]? = some f131 from rfl).symm.trans hx
        split at h
        · skip
          exact Or.inl ⟨dr + 1, by omega, m131 rec dr hrec  h⟩
        · cases h
      · skip
        split at h
        · rename_i hx'
          subst hx'
          cases (show smP[132]? = some f132 from rfl).symm.trans hx
          split at h
          · skip
            exact Or.inl ⟨dr + 1, by omega, m132 rec dr hrec  h⟩
          · cases h
        · skip
          split at h
          · rename_i hx'
            subst hx'
            cases (show smP[133]? = some f133 from rfl).symm.trans hx
            split at h
            · skip
              exact Or.inl ⟨dr + 1, by omega, m133 rec dr hrec  h⟩
            · cases h
          · skip
            split at h
            · rename_i hx'
              subst hx'
              cases (show smP[134]? = some f134 from rfl).symm.trans hx
              split at h
              · skip
                exact Or.inl ⟨dr + 1, by omega, m134 rec dr hrec  h⟩
              · cases h
            · skip
              cases h
set_option maxRecDepth 20000 in
set_option maxHeartbeats 4000000 in
theorem w128_23 (rec : Int32 → Int32 → Int32 → sm_D → sm_M → Option sm_S) (dr : Nat) (hrec : ∀ (l1 l2 l3 : Int32) (D : sm_D) (M : sm_M) (R : sm_S), rec l1 l2 l3 D M = some R → sm_MJ smT smCl smSa shC f128 dr [.ref 18, .int l1, .int l2, .int l3] D M R) {g1 g2 g3 : Value} {D : sm_D} {M : sm_M} {R : sm_S} (h : jV_find_23 rec D M = some R) : sm_WJ smT smCl smSa shC f128 (dr + 2) 23 [.ref 18, g1, g2, g3] [] D M R := by
  have e : jV_find_23 rec D M = (sm_run shC smSa (cal128 rec) c128 false (fun a D M => some (a, D, M)) sm_noleaf 81 (c128.drop 10) [.ref 18, g1, g2, g3] [] D M : Option (sm_S)) := rfl
  exact sm_blk (ρ := sm_S) (gd := (fun v => v = R)) (kx := 128) (i := 10) smVC rfl (by decide) (ck128 rec dr hrec) (fun a D M v e1 e2 => by cases e1; exact e2.symm) (sm_noleaf_ok) rfl (e.symm.trans h) rfl
set_option maxRecDepth 20000 in
set_option maxHeartbeats 4000000 in
theorem w128_163 (rec : Int32 → Int32 → Int32 → sm_D → sm_M → Option sm_S) (dr : Nat) (hrec : ∀ (l1 l2 l3 : Int32) (D : sm_D) (M : sm_M) (R : sm_S), rec l1 l2 l3 D M = some R → sm_MJ smT smCl smSa shC f128 dr [.ref 18, .int l1, .int l2, .int l3] D M R) {l1 l2 l3 : Int32} {D : sm_D} {M : sm_M} {R : sm_S} (h : jV_find_163 rec l1 l2 l3 D M = some R) : sm_WJ smT smCl smSa shC f128 (dr + 2) 163 [.ref 18, .int l1, .int l2, .int l3] [] D M R := by
  have e : jV_find_163 rec l1 l2 l3 D M = (sm_run shC smSa (cal128 rec) c128 false (fun a D M => some (a, D, M)) sm_noleaf 81 (c128.drop 64) [.ref 18, .int l1, .int l2, .int l3] [] D M : Option (sm_S)) := rfl
  exact sm_blk (ρ := sm_S) (gd := (fun v => v = R)) (kx := 128) (i := 64) smVC rfl (by decide) (ck128 rec dr hrec) (fun a D M v e1 e2 => by cases e1; exact e2.symm) (sm_noleaf_ok) rfl (e.symm.trans h) rfl
set_option maxRecDepth 20000 in
set_option maxHeartbeats 4000000 in
theorem w128_171 (rec : Int32 → Int32 → Int32 → sm_D → sm_M → Option sm_S) (dr : Nat) (hrec : ∀ (l1 l2 l3 : Int32) (D : sm_D) (M : sm_M) (R : sm_S), rec l1 l2 l3 D M = some R → sm_MJ smT smCl smSa shC f128 dr [.ref 18, .int l1, .int l2, .int l3] D M R) {l1 l2 l3 : Int32} {D : sm_D} {M : sm_M} {R : sm_S} (h : jV_find_171 rec l1 l2 l3 D M = some R) : sm_WJ smT smCl smSa shC f128 (dr + 2) 171 [.ref 18, .int l1, .int l2, .int l3] [] D M R := by
  have e : jV_find_171 rec l1 l2 l3 D M = (sm_run shC smSa (cal128 rec) c128 false (fun a D M => some (a, D, M)) sm_noleaf 81 (c128.drop 70) [.ref 18, .int l1, .int l2, .int l3] [] D M : Option (sm_S)) := rfl
  exact sm_blk (ρ := sm_S) (gd := (fun v => v = R)) (kx := 128) (i := 70) smVC rfl (by decide) (ck128 rec dr hrec) (fun a D M v e1 e2 => by cases e1; exact e2.symm) (sm_noleaf_ok) rfl (e.symm.trans h) rfl
noncomputable def lf128_0 (rec : Int32 → Int32 → Int32 → sm_D → sm_M → Option sm_S) (D : sm_D) : Nat → List Value → List Value → sm_D → sm_M → Option (sm_S) := fun pc ls st D' M =>
  if pc = 23 then (match ls, st with
    | [.ref 18, gl1, gl2, gl3], [] => (jV_find_23 rec D' M)
    | _, _ => none)
  else if pc = 163 then (match ls, st with
    | [.ref 18, .int bl1, .int bl2, .int bl3], [] => (jV_find_163 rec bl1 bl2 bl3 D' M)
    | _, _ => none)
  else if pc = 171 then (match ls, st with
    | [.ref 18, .int bl1, .int bl2, .int bl3], [] => (jV_find_171 rec bl1 bl2 bl3 D' M)
    | _, _ => none)
  else none
theorem ll128_0 (rec : Int32 → Int32 → Int32 → sm_D → sm_M → Option sm_S) (dr : Nat) (hrec : ∀ (l1 l2 l3 : Int32) (D : sm_D) (M : sm_M) (R : sm_S), rec l1 l2 l3 D M = some R → sm_MJ smT smCl smSa shC f128 dr [.ref 18, .int l1, .int l2, .int l3] D M R) (D : sm_D) {R : sm_S} : ∀ (pc : Nat) (ls st : List Value) (D' : sm_D) (M : sm_M) (v : sm_S), (lf128_0 rec D) pc ls st D' M = some v → (fun v => v = R) v → sm_WJ smT smCl smSa shC f128 (dr + 2) pc ls st D' M R := by
  intro pc ls st D' M v h hv
  unfold lf128_0 at h
  split at h
  · rename_i hp0
    subst hp0
    split at h
    · skip
      have hv : v = R := hv
      subst hv
      exact w128_23 rec dr hrec h
    · cases h
  · skip
    split at h
    · rename_i hp0
      subst hp0
      split at h
      · skip
        have hv : v = R := hv
        subst hv
        exact w128_163 rec dr hrec h
      · cases h
    · skip
      split at h
      · rename_i hp0
        subst hp0
        split at h
        · skip
          have hv : v = R := hv
          subst hv
          exact w128_171 rec dr hrec h
        · cases h
      · skip
        cases h
set_option maxRecDepth 20000 in
set_option maxHeartbeats 4000000 in
theorem we128 (rec : Int32 → Int32 → Int32 → sm_D → sm_M → Option sm_S) (dr : Nat) (hrec : ∀ (l1 l2 l3 : Int32) (D : sm_D) (M : sm_M) (R : sm_S), rec l1 l2 l3 D M = some R → sm_MJ smT smCl smSa shC f128 dr [.ref 18, .int l1, .int l2, .int l3] D M R) {l1 l2 l3 : Int32} {D : sm_D} {M : sm_M} {R : sm_S} (h : jV_find0 rec l1 l2 l3 D M = some R) : sm_WJ smT smCl smSa shC f128 (dr + 2) 0 [.ref 18, .int l1, .int l2, .int l3] [] D M R := by
  have e : jV_find0 rec l1 l2 l3 D M = (sm_run shC smSa (cal128 rec) c128 false (fun a D M => some (a, D, M)) (lf128_0 rec D) 81 (c128.drop 0) [.ref 18, .int l1, .int l2, .int l3] [] D M : Option (sm_S)) := rfl
  exact sm_blk (ρ := sm_S) (gd := (fun v => v = R)) (kx := 128) (i := 0) smVC rfl (by decide) (ck128 rec dr hrec) (fun a D M v e1 e2 => by cases e1; exact e2.symm) (ll128_0 rec dr hrec D) rfl (e.symm.trans h) rfl
theorem mh128 (rec : Int32 → Int32 → Int32 → sm_D → sm_M → Option sm_S) (dr : Nat) (hrec : ∀ (l1 l2 l3 : Int32) (D : sm_D) (M : sm_M) (R : sm_S), rec l1 l2 l3 D M = some R → sm_MJ smT smCl smSa shC f128 dr [.ref 18, .int l1, .int l2, .int l3] D M R) {l1 l2 l3 : Int32} {D : sm_D} {M : sm_M} {R : sm_S} (h : jV_find0 rec l1 l2 l3 D M = some R) : sm_MJ smT smCl smSa shC f128 (dr + 2) [.ref 18, .int l1, .int l2, .int l3] D M R :=
  sm_met (by decide) (Nat.le_of_ble_eq_true rfl) (List.all_eq_true.mp rfl) (we128 rec dr hrec h)
theorem m128 (n : Nat) {l1 l2 l3 : Int32} {D : sm_D} {M : sm_M} {R : sm_S} (h : jV_find n l1 l2 l3 D M = some R) : sm_MJ smT smCl smSa shC f128 (n * 2) [.ref 18, .int l1, .int l2, .int l3] D M R := by
  induction n generalizing l1 l2 l3 D M R with
  | zero => cases h
  | succ n ih =>
    rw [Nat.succ_mul]
    exact mh128 (jV_find n) (n * 2) (fun l1 l2 l3 D M R h => ih h)  h

-- jV_answerOf
noncomputable def cal127  : sm_Cal := fun x as D M =>
  if x = 128 then (match as with
    | [.ref 18, .int a1, .int a2, .int a3] => (jV_find 61 a1 a2 a3 D M)
    | _ => none)
  else none
theorem ck127  : sm_CalOk smT smCl smP smSa shC 123 cal127 := by
  intro x g as D M R hx h
  unfold cal127 at h
  split at h
  · rename_i hx'
    subst hx'
    cases (show smP[128]? = some f128 from rfl).symm.trans hx
    split at h
    · skip
      exact Or.inl ⟨61 * 2, by omega, m128 61  h⟩
    · cases h
  · skip
    cases h
set_option maxRecDepth 20000 in
set_option maxHeartbeats 4000000 in
theorem w127_45 {s0 : Int32} {g0 g1 g2 : Value} {D : sm_D} {M : sm_M} {R : sm_S} (h : jV_answerOf_45 s0 D M = some R) : sm_WJ smT smCl smSa shC f127 123 45 [g0, g1, g2] [.int s0] D M R := by
  have e : jV_answerOf_45 s0 D M = (sm_run shC smSa cal127 c127 false (fun a D M => some (a, D, M)) sm_noleaf 33 (c127.drop 27) [g0, g1, g2] [.int s0] D M : Option (sm_S)) := rfl
  exact sm_blk (ρ := sm_S) (gd := (fun v => v = R)) (kx := 127) (i := 27) smVC rfl (by decide) ck127 (fun a D M v e1 e2 => by cases e1; exact e2.symm) (sm_noleaf_ok) rfl (e.symm.trans h) rfl
noncomputable def lf127_0 (D : sm_D) : Nat → List Value → List Value → sm_D → sm_M → Option (sm_S) := fun pc ls st D' M =>
  if pc = 45 then (match ls, st with
    | [gl0, gl1, gl2], [.int bs0] => (jV_answerOf_45 bs0 D' M)
    | _, _ => none)
  else none
theorem ll127_0 (D : sm_D) {R : sm_S} : ∀ (pc : Nat) (ls st : List Value) (D' : sm_D) (M : sm_M) (v : sm_S), (lf127_0 D) pc ls st D' M = some v → (fun v => v = R) v → sm_WJ smT smCl smSa shC f127 123 pc ls st D' M R := by
  intro pc ls st D' M v h hv
  unfold lf127_0 at h
  split at h
  · rename_i hp0
    subst hp0
    split at h
    · skip
      have hv : v = R := hv
      subst hv
      exact w127_45  h
    · cases h
  · skip
    cases h
set_option maxRecDepth 20000 in
set_option maxHeartbeats 4000000 in
theorem we127 {l1 : Int32} {D : sm_D} {M : sm_M} {R : sm_S} (h : jV_answerOf l1 D M = some R) : sm_WJ smT smCl smSa shC f127 123 0 [.ref 18, .int l1, .retAddr 0] [] D M R := by
  have e : jV_answerOf l1 D M = (sm_run shC smSa cal127 c127 false (fun a D M => some (a, D, M)) (lf127_0 D) 33 (c127.drop 0) [.ref 18, .int l1, .retAddr 0] [] D M : Option (sm_S)) := rfl
  exact sm_blk (ρ := sm_S) (gd := (fun v => v = R)) (kx := 127) (i := 0) smVC rfl (by decide) ck127 (fun a D M v e1 e2 => by cases e1; exact e2.symm) (ll127_0 D) rfl (e.symm.trans h) rfl
theorem m127 {l1 : Int32} {D : sm_D} {M : sm_M} {R : sm_S} (h : jV_answerOf l1 D M = some R) : sm_MJ smT smCl smSa shC f127 123 [.ref 18, .int l1] D M R :=
  sm_met (by decide) (Nat.le_of_ble_eq_true rfl) (List.all_eq_true.mp rfl) (we127  h)
