-- jR_compile
noncomputable def cal60  : sm_Cal := fun x as D M =>
  if x = 24 then (match as with
    | [.ref 1, .int a1] => (jR_isExpression a1 D M)
    | _ => none)
  else if x = 16 then (match as with
    | [.ref 1, .int a1] => (jR_refuse a1 D M)
    | _ => none)
  else if x = 30 then (match as with
    | [.ref 1, .int a1] => (jR_isProgram a1 D M)
    | _ => none)
  else if x = 59 then (match as with
    | [.ref 1, .int a1] => (jR_keep a1 D M)
    | _ => none)
  else if x = 57 then (match as with
    | [.ref 1, .int a1] => (jR_writeProgram a1 D M)
    | _ => none)
  else if x = 20 then (match as with
    | [.ref 1, .int a1] => (jR_numberOf a1 D M)
    | _ => none)
  else if x = 18 then (match as with
    | [.ref 1, .int a1, .int a2, .int a3, .int a4] => (jR_find a1 a2 a3 a4 D M)
    | _ => none)
  else if x = 79 then (match as with
    | [.ref 1] => (jR_restart D M)
    | _ => none)
  else none
theorem ck60  : sm_CalOk smT smCl smP smSa shM 8 cal60 := by
  intro x g as D M R hx h
  unfold cal60 at h
  split at h
  · rename_i hx'
    subst hx'
    cases (show smP[24]? = some f24 from rfl).symm.trans hx
    split at h
    · skip
      exact Or.inl ⟨0, by omega, m24   h⟩
    · cases h
  · skip
    split at h
    · rename_i hx'
      subst hx'
      cases (show smP[16]? = some f16 from rfl).symm.trans hx
      split at h
      · skip
        exact Or.inl ⟨0, by omega, m16   h⟩
      · cases h
    · skip
      split at h
      · rename_i hx'
        subst hx'
        cases (show smP[30]? = some f30 from rfl).symm.trans hx
        split at h
        · skip
          exact Or.inl ⟨4, by omega, m30   h⟩
        · cases h
      · skip
        split at h
        · rename_i hx'
          subst hx'
          cases (show smP[59]? = some f59 from rfl).symm.trans hx
          split at h
          · skip
            exact Or.inl ⟨1, by omega, m59   h⟩
          · cases h
        · skip
          split at h
          · rename_i hx'
            subst hx'
            cases (show smP[57]? = some f57 from rfl).symm.trans hx
            split at h
            · skip
              exact Or.inl ⟨7, by omega, m57   h⟩
            · cases h
          · skip
            split at h
            · rename_i hx'
              subst hx'
              cases (show smP[20]? = some f20 from rfl).symm.trans hx
              split at h
              · skip
                exact Or.inl ⟨0, by omega, m20   h⟩
              · cases h
            · skip
              split at h
              · rename_i hx'
                subst hx'
                cases (show smP[18]? = some f18 from rfl).symm.trans hx
                split at h
                · skip
                  exact Or.inl ⟨1, by omega, m18   h⟩
                · cases h
              · skip
                split at h
                · rename_i hx'
                  subst hx'
                  cases (show smP[79]? = some f79 from rfl).symm.trans hx
                  split at h
                  · skip
                    exact Or.inl ⟨0, by omega, m79   h⟩
                  · cases h
                · skip
                  cases h
def lh60_85 (D : sm_D) (R : sm_S) (s : Int32 × Int32 × sm_M) : Prop := ∀ (g2 g3 : Value), sm_WJ smT smCl smSa shM f60 8 85 [.ref 1, .int (s.1), g2, g3, .int (s.2.1)] [] D (s.2.2) R
def gd60_85 (D : sm_D) (R : sm_S) (v : (Int32 × Int32 × sm_M) ⊕ sm_S) : Prop := match v with
  | .inl s => lh60_85 D R s
  | .inr r => r = R
noncomputable def lf60_85 (D : sm_D) : Nat → List Value → List Value → sm_D → sm_M → Option ((Int32 × Int32 × sm_M) ⊕ sm_S) := fun pc ls st D' M =>
  if pc = 85 then (match ls, st with
    | [.ref 1, .int bl1, gl2, gl3, .int bl4], [] => (sm_dq D' D (some (.inl (bl1, bl4, M))))
    | _, _ => none)
  else none
theorem ll60_85 (D : sm_D) {R : sm_S} : ∀ (pc : Nat) (ls st : List Value) (D' : sm_D) (M : sm_M) (v : (Int32 × Int32 × sm_M) ⊕ sm_S), (lf60_85 D) pc ls st D' M = some v → (gd60_85 D R) v → sm_WJ smT smCl smSa shM f60 8 pc ls st D' M R := by
  intro pc ls st D' M v h hv
  unfold lf60_85 at h
  split at h
  · rename_i hp0
    subst hp0
    split at h
    · skip
      replace h := sm_dq_inv h
      obtain ⟨he, h⟩ := h
      subst he
      cases h
      exact hv _ _
    · cases h
  · skip
    cases h
set_option maxRecDepth 20000 in
set_option maxHeartbeats 4000000 in
theorem wc60_85 (D : sm_D) {l1 l4 : Int32} {g2 g3 : Value} {M : sm_M} {R : sm_S} {v : (Int32 × Int32 × sm_M) ⊕ sm_S} (h : jR_compile_85_c l1 l4 D M = some v) (hv : (gd60_85 D R) v) : sm_WJ smT smCl smSa shM f60 8 85 [.ref 1, .int l1, g2, g3, .int l4] [] D M R := by
  have e : jR_compile_85_c l1 l4 D M = (sm_run shM smSa cal60 c60 false (fun a D M => some (.inr (a, D, M))) (lf60_85 D) 105 (c60.drop 50) [.ref 1, .int l1, g2, g3, .int l4] [] D M : Option ((Int32 × Int32 × sm_M) ⊕ sm_S)) := rfl
  exact sm_blk (ρ := (Int32 × Int32 × sm_M) ⊕ sm_S) (gd := (gd60_85 D R)) (kx := 60) (i := 50) smVM rfl (by decide) ck60 (fun a D M v e1 e2 => by cases e1; exact e2.symm) (ll60_85 D) rfl (e.symm.trans h) hv
theorem w60_85 {l1 l4 : Int32} {g2 g3 : Value} {D : sm_D} {M : sm_M} {R : sm_S} (h : jR_compile_85 l1 l4 D M = some R) : sm_WJ smT smCl smSa shM f60 8 85 [.ref 1, .int l1, g2, g3, .int l4] [] D M R := by
  have hh : lh60_85 D R (l1, l4, M) := by
    refine sm_lp_ind (b := jR_compile_85_b D) (r := R) (lh60_85 D R) ?_ h
    intro s v hb h1 h2
    obtain ⟨z0, z1, M1⟩ := s
    have hv : gd60_85 D R v := by
      cases v with
      | inl s' => exact h1 s' rfl
      | inr r => exact h2 r rfl
    intro g2 g3
    exact wc60_85 D hb hv
  exact hh _ _
noncomputable def lf60_0 (D : sm_D) : Nat → List Value → List Value → sm_D → sm_M → Option (sm_S) := fun pc ls st D' M =>
  if pc = 85 then (match ls, st with
    | [.ref 1, .int bl1, gl2, gl3, .int bl4], [] => (jR_compile_85 bl1 bl4 D' M)
    | _, _ => none)
  else none
theorem ll60_0 (D : sm_D) {R : sm_S} : ∀ (pc : Nat) (ls st : List Value) (D' : sm_D) (M : sm_M) (v : sm_S), (lf60_0 D) pc ls st D' M = some v → (fun v => v = R) v → sm_WJ smT smCl smSa shM f60 8 pc ls st D' M R := by
  intro pc ls st D' M v h hv
  unfold lf60_0 at h
  split at h
  · rename_i hp0
    subst hp0
    split at h
    · skip
      have hv : v = R := hv
      subst hv
      exact w60_85  h
    · cases h
  · skip
    cases h
set_option maxRecDepth 20000 in
set_option maxHeartbeats 4000000 in
theorem we60 {l1 : Int32} {D : sm_D} {M : sm_M} {R : sm_S} (h : jR_compile l1 D M = some R) : sm_WJ smT smCl smSa shM f60 8 0 [.ref 1, .int l1, .retAddr 0, .retAddr 0, .retAddr 0] [] D M R := by
  have e : jR_compile l1 D M = (sm_run shM smSa cal60 c60 false (fun a D M => some (a, D, M)) (lf60_0 D) 105 (c60.drop 0) [.ref 1, .int l1, .retAddr 0, .retAddr 0, .retAddr 0] [] D M : Option (sm_S)) := rfl
  exact sm_blk (ρ := sm_S) (gd := (fun v => v = R)) (kx := 60) (i := 0) smVM rfl (by decide) ck60 (fun a D M v e1 e2 => by cases e1; exact e2.symm) (ll60_0 D) rfl (e.symm.trans h) rfl
theorem m60 {l1 : Int32} {D : sm_D} {M : sm_M} {R : sm_S} (h : jR_compile l1 D M = some R) : sm_MJ smT smCl smSa shM f60 8 [.ref 1, .int l1] D M R :=
  sm_met (by decide) (Nat.le_of_ble_eq_true rfl) (List.all_eq_true.mp rfl) (we60  h)

-- jR_clear
noncomputable def cal61  : sm_Cal := fun x as D M =>
  if x = 79 then (match as with
    | [.ref 1] => (jR_restart D M)
    | _ => none)
  else none
theorem ck61  : sm_CalOk smT smCl smP smSa shM 1 cal61 := by
  intro x g as D M R hx h
  unfold cal61 at h
  split at h
  · rename_i hx'
    subst hx'
    cases (show smP[79]? = some f79 from rfl).symm.trans hx
    split at h
    · skip
      exact Or.inl ⟨0, by omega, m79   h⟩
    · cases h
  · skip
    cases h
set_option maxRecDepth 20000 in
set_option maxHeartbeats 4000000 in
theorem we61 {D : sm_D} {M : sm_M} {R : sm_S} (h : jR_clear D M = some R) : sm_WJ smT smCl smSa shM f61 1 0 [.ref 1] [] D M R := by
  have e : jR_clear D M = (sm_run shM smSa cal61 c61 false (fun a D M => some (a, D, M)) sm_noleaf 20 (c61.drop 0) [.ref 1] [] D M : Option (sm_S)) := rfl
  exact sm_blk (ρ := sm_S) (gd := (fun v => v = R)) (kx := 61) (i := 0) smVM rfl (by decide) ck61 (fun a D M v e1 e2 => by cases e1; exact e2.symm) (sm_noleaf_ok) rfl (e.symm.trans h) rfl
theorem m61 {D : sm_D} {M : sm_M} {R : sm_S} (h : jR_clear D M = some R) : sm_MJ smT smCl smSa shM f61 1 [.ref 1] D M R :=
  sm_met (by decide) (Nat.le_of_ble_eq_true rfl) (List.all_eq_true.mp rfl) (we61  h)

-- jR_isAsked
noncomputable def cal62  : sm_Cal := fun x as D M =>
  if x = 19 then (match as with
    | [.ref 1, .int a1] => (jR_isMade a1 D M)
    | _ => none)
  else none
theorem ck62  : sm_CalOk smT smCl smP smSa shM 1 cal62 := by
  intro x g as D M R hx h
  unfold cal62 at h
  split at h
  · rename_i hx'
    subst hx'
    cases (show smP[19]? = some f19 from rfl).symm.trans hx
    split at h
    · skip
      exact Or.inl ⟨0, by omega, m19   h⟩
    · cases h
  · skip
    cases h
set_option maxRecDepth 20000 in
set_option maxHeartbeats 4000000 in
theorem w62_18 {s0 : Int32} {g0 g1 : Value} {D : sm_D} {M : sm_M} {R : sm_S} (h : jR_isAsked_18 s0 D M = some R) : sm_WJ smT smCl smSa shM f62 1 18 [g0, g1] [.int s0] D M R := by
  have e : jR_isAsked_18 s0 D M = (sm_run shM smSa cal62 c62 true (fun a D M => some (a, D, M)) sm_noleaf 16 (c62.drop 10) [g0, g1] [.int s0] D M : Option (sm_S)) := rfl
  exact sm_blk (ρ := sm_S) (gd := (fun v => v = R)) (kx := 62) (i := 10) smVM rfl (by decide) ck62 (fun a D M v e1 e2 => by cases e1; exact e2.symm) (sm_noleaf_ok) rfl (e.symm.trans h) rfl
noncomputable def lf62_13 (D : sm_D) : Nat → List Value → List Value → sm_D → sm_M → Option (sm_S) := fun pc ls st D' M =>
  if pc = 18 then (match ls, st with
    | [gl0, gl1], [.int bs0] => (jR_isAsked_18 bs0 D' M)
    | _, _ => none)
  else none
theorem ll62_13 (D : sm_D) {R : sm_S} : ∀ (pc : Nat) (ls st : List Value) (D' : sm_D) (M : sm_M) (v : sm_S), (lf62_13 D) pc ls st D' M = some v → (fun v => v = R) v → sm_WJ smT smCl smSa shM f62 1 pc ls st D' M R := by
  intro pc ls st D' M v h hv
  unfold lf62_13 at h
  split at h
  · rename_i hp0
    subst hp0
    split at h
    · skip
      have hv : v = R := hv
      subst hv
      exact w62_18  h
    · cases h
  · skip
    cases h
set_option maxRecDepth 20000 in
set_option maxHeartbeats 4000000 in
theorem w62_13 {g0 g1 : Value} {D : sm_D} {M : sm_M} {R : sm_S} (h : jR_isAsked_13 D M = some R) : sm_WJ smT smCl smSa shM f62 1 13 [g0, g1] [] D M R := by
  have e : jR_isAsked_13 D M = (sm_run shM smSa cal62 c62 true (fun a D M => some (a, D, M)) (lf62_13 D) 16 (c62.drop 7) [g0, g1] [] D M : Option (sm_S)) := rfl
  exact sm_blk (ρ := sm_S) (gd := (fun v => v = R)) (kx := 62) (i := 7) smVM rfl (by decide) ck62 (fun a D M v e1 e2 => by cases e1; exact e2.symm) (ll62_13 D) rfl (e.symm.trans h) rfl
noncomputable def lf62_0 (D : sm_D) : Nat → List Value → List Value → sm_D → sm_M → Option (sm_S) := fun pc ls st D' M =>
  if pc = 13 then (match ls, st with
    | [gl0, gl1], [] => (jR_isAsked_13 D' M)
    | _, _ => none)
  else if pc = 18 then (match ls, st with
    | [gl0, gl1], [.int bs0] => (jR_isAsked_18 bs0 D' M)
    | _, _ => none)
  else none
theorem ll62_0 (D : sm_D) {R : sm_S} : ∀ (pc : Nat) (ls st : List Value) (D' : sm_D) (M : sm_M) (v : sm_S), (lf62_0 D) pc ls st D' M = some v → (fun v => v = R) v → sm_WJ smT smCl smSa shM f62 1 pc ls st D' M R := by
  intro pc ls st D' M v h hv
  unfold lf62_0 at h
  split at h
  · rename_i hp0
    subst hp0
    split at h
    · skip
      have hv : v = R := hv
      subst hv
      exact w62_13  h
    · cases h
  · skip
    split at h
    · rename_i hp0
      subst hp0
      split at h
      · skip
        have hv : v = R := hv
        subst hv
        exact w62_18  h
      · cases h
    · skip
      cases h
set_option maxRecDepth 20000 in
set_option maxHeartbeats 4000000 in
theorem we62 {l1 : Int32} {D : sm_D} {M : sm_M} {R : sm_S} (h : jR_isAsked l1 D M = some R) : sm_WJ smT smCl smSa shM f62 1 0 [.ref 1, .int l1] [] D M R := by
  have e : jR_isAsked l1 D M = (sm_run shM smSa cal62 c62 true (fun a D M => some (a, D, M)) (lf62_0 D) 16 (c62.drop 0) [.ref 1, .int l1] [] D M : Option (sm_S)) := rfl
  exact sm_blk (ρ := sm_S) (gd := (fun v => v = R)) (kx := 62) (i := 0) smVM rfl (by decide) ck62 (fun a D M v e1 e2 => by cases e1; exact e2.symm) (ll62_0 D) rfl (e.symm.trans h) rfl
theorem m62 {l1 : Int32} {D : sm_D} {M : sm_M} {R : sm_S} (h : jR_isAsked l1 D M = some R) : sm_MJ smT smCl smSa shM f62 1 [.ref 1, .int l1] D M R :=
  sm_met (by decide) (Nat.le_of_ble_eq_true rfl) (List.all_eq_true.mp rfl) (we62  h)

-- jR_block
noncomputable def cal63  : sm_Cal := fun x as D M =>
  if x = 62 then (match as with
    | [.ref 1, .int a1] => (jR_isAsked a1 D M)
    | _ => none)
  else if x = 20 then (match as with
    | [.ref 1, .int a1] => (jR_numberOf a1 D M)
    | _ => none)
  else if x = 42 then (match as with
    | [.ref 1, .int a1, .int a2, .int a3, .int a4] => (jR_beginBlock a1 a2 a3 a4 D M)
    | _ => none)
  else if x = 79 then (match as with
    | [.ref 1] => (jR_restart D M)
    | _ => none)
  else none
theorem ck63  : sm_CalOk smT smCl smP smSa shM 2 cal63 := by
  intro x g as D M R hx h
  unfold cal63 at h
  split at h
  · rename_i hx'
    subst hx'
    cases (show smP[62]? = some f62 from rfl).symm.trans hx
    split at h
    · skip
      exact Or.inl ⟨1, by omega, m62   h⟩
    · cases h
  · skip
    split at h
    · rename_i hx'
      subst hx'
      cases (show smP[20]? = some f20 from rfl).symm.trans hx
      split at h
      · skip
        exact Or.inl ⟨0, by omega, m20   h⟩
      · cases h
    · skip
      split at h
      · rename_i hx'
        subst hx'
        cases (show smP[42]? = some f42 from rfl).symm.trans hx
        split at h
        · skip
          exact Or.inl ⟨0, by omega, m42   h⟩
        · cases h
      · skip
        split at h
        · rename_i hx'
          subst hx'
          cases (show smP[79]? = some f79 from rfl).symm.trans hx
          split at h
          · skip
            exact Or.inl ⟨0, by omega, m79   h⟩
          · cases h
        · skip
          cases h
set_option maxRecDepth 20000 in
set_option maxHeartbeats 4000000 in
theorem w63_45 {g0 g1 g2 g3 : Value} {D : sm_D} {M : sm_M} {R : sm_S} (h : jR_block_45 D M = some R) : sm_WJ smT smCl smSa shM f63 2 45 [g0, g1, g2, g3] [] D M R := by
  have e : jR_block_45 D M = (sm_run shM smSa cal63 c63 false (fun a D M => some (a, D, M)) sm_noleaf 55 (c63.drop 22) [g0, g1, g2, g3] [] D M : Option (sm_S)) := rfl
  exact sm_blk (ρ := sm_S) (gd := (fun v => v = R)) (kx := 63) (i := 22) smVM rfl (by decide) ck63 (fun a D M v e1 e2 => by cases e1; exact e2.symm) (sm_noleaf_ok) rfl (e.symm.trans h) rfl
noncomputable def lf63_0 (D : sm_D) : Nat → List Value → List Value → sm_D → sm_M → Option (sm_S) := fun pc ls st D' M =>
  if pc = 45 then (match ls, st with
    | [gl0, gl1, gl2, gl3], [] => (jR_block_45 D' M)
    | _, _ => none)
  else none
theorem ll63_0 (D : sm_D) {R : sm_S} : ∀ (pc : Nat) (ls st : List Value) (D' : sm_D) (M : sm_M) (v : sm_S), (lf63_0 D) pc ls st D' M = some v → (fun v => v = R) v → sm_WJ smT smCl smSa shM f63 2 pc ls st D' M R := by
  intro pc ls st D' M v h hv
  unfold lf63_0 at h
  split at h
  · rename_i hp0
    subst hp0
    split at h
    · skip
      have hv : v = R := hv
      subst hv
      exact w63_45  h
    · cases h
  · skip
    cases h
set_option maxRecDepth 20000 in
set_option maxHeartbeats 4000000 in
theorem we63 {l1 l2 l3 : Int32} {D : sm_D} {M : sm_M} {R : sm_S} (h : jR_block l1 l2 l3 D M = some R) : sm_WJ smT smCl smSa shM f63 2 0 [.ref 1, .int l1, .int l2, .int l3] [] D M R := by
  have e : jR_block l1 l2 l3 D M = (sm_run shM smSa cal63 c63 false (fun a D M => some (a, D, M)) (lf63_0 D) 55 (c63.drop 0) [.ref 1, .int l1, .int l2, .int l3] [] D M : Option (sm_S)) := rfl
  exact sm_blk (ρ := sm_S) (gd := (fun v => v = R)) (kx := 63) (i := 0) smVM rfl (by decide) ck63 (fun a D M v e1 e2 => by cases e1; exact e2.symm) (ll63_0 D) rfl (e.symm.trans h) rfl
theorem m63 {l1 l2 l3 : Int32} {D : sm_D} {M : sm_M} {R : sm_S} (h : jR_block l1 l2 l3 D M = some R) : sm_MJ smT smCl smSa shM f63 2 [.ref 1, .int l1, .int l2, .int l3] D M R :=
  sm_met (by decide) (Nat.le_of_ble_eq_true rfl) (List.all_eq_true.mp rfl) (we63  h)

-- jR_isRegister
set_option maxRecDepth 20000 in
set_option maxHeartbeats 4000000 in
theorem w64_15 {s0 : Int32} {g0 : Value} {D : sm_D} {M : sm_M} {R : sm_S} (h : jR_isRegister_15 s0 D M = some R) : sm_WJ smT smCl smSa shM f64 0 15 [g0] [.int s0] D M R := by
  have e : jR_isRegister_15 s0 D M = (sm_run shM smSa sm_nocal c64 true (fun a D M => some (a, D, M)) sm_noleaf 15 (c64.drop 9) [g0] [.int s0] D M : Option (sm_S)) := rfl
  exact sm_blk (ρ := sm_S) (gd := (fun v => v = R)) (kx := 64) (i := 9) smVM rfl (by decide) (sm_nocal_ok smT smCl smP smSa shM 0) (fun a D M v e1 e2 => by cases e1; exact e2.symm) (sm_noleaf_ok) rfl (e.symm.trans h) rfl
noncomputable def lf64_14 (D : sm_D) : Nat → List Value → List Value → sm_D → sm_M → Option (sm_S) := fun pc ls st D' M =>
  if pc = 15 then (match ls, st with
    | [gl0], [.int bs0] => (jR_isRegister_15 bs0 D' M)
    | _, _ => none)
  else none
theorem ll64_14 (D : sm_D) {R : sm_S} : ∀ (pc : Nat) (ls st : List Value) (D' : sm_D) (M : sm_M) (v : sm_S), (lf64_14 D) pc ls st D' M = some v → (fun v => v = R) v → sm_WJ smT smCl smSa shM f64 0 pc ls st D' M R := by
  intro pc ls st D' M v h hv
  unfold lf64_14 at h
  split at h
  · rename_i hp0
    subst hp0
    split at h
    · skip
      have hv : v = R := hv
      subst hv
      exact w64_15  h
    · cases h
  · skip
    cases h
set_option maxRecDepth 20000 in
set_option maxHeartbeats 4000000 in
theorem w64_14 {g0 : Value} {D : sm_D} {M : sm_M} {R : sm_S} (h : jR_isRegister_14 D M = some R) : sm_WJ smT smCl smSa shM f64 0 14 [g0] [] D M R := by
  have e : jR_isRegister_14 D M = (sm_run shM smSa sm_nocal c64 true (fun a D M => some (a, D, M)) (lf64_14 D) 15 (c64.drop 8) [g0] [] D M : Option (sm_S)) := rfl
  exact sm_blk (ρ := sm_S) (gd := (fun v => v = R)) (kx := 64) (i := 8) smVM rfl (by decide) (sm_nocal_ok smT smCl smP smSa shM 0) (fun a D M v e1 e2 => by cases e1; exact e2.symm) (ll64_14 D) rfl (e.symm.trans h) rfl
noncomputable def lf64_0 (D : sm_D) : Nat → List Value → List Value → sm_D → sm_M → Option (sm_S) := fun pc ls st D' M =>
  if pc = 14 then (match ls, st with
    | [gl0], [] => (jR_isRegister_14 D' M)
    | _, _ => none)
  else if pc = 15 then (match ls, st with
    | [gl0], [.int bs0] => (jR_isRegister_15 bs0 D' M)
    | _, _ => none)
  else none
theorem ll64_0 (D : sm_D) {R : sm_S} : ∀ (pc : Nat) (ls st : List Value) (D' : sm_D) (M : sm_M) (v : sm_S), (lf64_0 D) pc ls st D' M = some v → (fun v => v = R) v → sm_WJ smT smCl smSa shM f64 0 pc ls st D' M R := by
  intro pc ls st D' M v h hv
  unfold lf64_0 at h
  split at h
  · rename_i hp0
    subst hp0
    split at h
    · skip
      have hv : v = R := hv
      subst hv
      exact w64_14  h
    · cases h
  · skip
    split at h
    · rename_i hp0
      subst hp0
      split at h
      · skip
        have hv : v = R := hv
        subst hv
        exact w64_15  h
      · cases h
    · skip
      cases h
set_option maxRecDepth 20000 in
set_option maxHeartbeats 4000000 in
theorem we64 {l0 : Int32} {D : sm_D} {M : sm_M} {R : sm_S} (h : jR_isRegister l0 D M = some R) : sm_WJ smT smCl smSa shM f64 0 0 [.int l0] [] D M R := by
  have e : jR_isRegister l0 D M = (sm_run shM smSa sm_nocal c64 true (fun a D M => some (a, D, M)) (lf64_0 D) 15 (c64.drop 0) [.int l0] [] D M : Option (sm_S)) := rfl
  exact sm_blk (ρ := sm_S) (gd := (fun v => v = R)) (kx := 64) (i := 0) smVM rfl (by decide) (sm_nocal_ok smT smCl smP smSa shM 0) (fun a D M v e1 e2 => by cases e1; exact e2.symm) (ll64_0 D) rfl (e.symm.trans h) rfl
theorem m64 {l0 : Int32} {D : sm_D} {M : sm_M} {R : sm_S} (h : jR_isRegister l0 D M = some R) : sm_MJ smT smCl smSa shM f64 0 [.int l0] D M R :=
  sm_met (by decide) (Nat.le_of_ble_eq_true rfl) (List.all_eq_true.mp rfl) (we64  h)

-- jR_isBlock
set_option maxRecDepth 20000 in
set_option maxHeartbeats 4000000 in
theorem w65_15 {s0 : Int32} {g0 : Value} {D : sm_D} {M : sm_M} {R : sm_S} (h : jR_isBlock_15 s0 D M = some R) : sm_WJ smT smCl smSa shM f65 0 15 [g0] [.int s0] D M R := by
  have e : jR_isBlock_15 s0 D M = (sm_run shM smSa sm_nocal c65 true (fun a D M => some (a, D, M)) sm_noleaf 14 (c65.drop 8) [g0] [.int s0] D M : Option (sm_S)) := rfl
  exact sm_blk (ρ := sm_S) (gd := (fun v => v = R)) (kx := 65) (i := 8) smVM rfl (by decide) (sm_nocal_ok smT smCl smP smSa shM 0) (fun a D M v e1 e2 => by cases e1; exact e2.symm) (sm_noleaf_ok) rfl (e.symm.trans h) rfl
noncomputable def lf65_14 (D : sm_D) : Nat → List Value → List Value → sm_D → sm_M → Option (sm_S) := fun pc ls st D' M =>
  if pc = 15 then (match ls, st with
    | [gl0], [.int bs0] => (jR_isBlock_15 bs0 D' M)
    | _, _ => none)
  else none
theorem ll65_14 (D : sm_D) {R : sm_S} : ∀ (pc : Nat) (ls st : List Value) (D' : sm_D) (M : sm_M) (v : sm_S), (lf65_14 D) pc ls st D' M = some v → (fun v => v = R) v → sm_WJ smT smCl smSa shM f65 0 pc ls st D' M R := by
  intro pc ls st D' M v h hv
  unfold lf65_14 at h
  split at h
  · rename_i hp0
    subst hp0
    split at h
    · skip
      have hv : v = R := hv
      subst hv
      exact w65_15  h
    · cases h
  · skip
    cases h
set_option maxRecDepth 20000 in
set_option maxHeartbeats 4000000 in
theorem w65_14 {g0 : Value} {D : sm_D} {M : sm_M} {R : sm_S} (h : jR_isBlock_14 D M = some R) : sm_WJ smT smCl smSa shM f65 0 14 [g0] [] D M R := by
  have e : jR_isBlock_14 D M = (sm_run shM smSa sm_nocal c65 true (fun a D M => some (a, D, M)) (lf65_14 D) 14 (c65.drop 7) [g0] [] D M : Option (sm_S)) := rfl
  exact sm_blk (ρ := sm_S) (gd := (fun v => v = R)) (kx := 65) (i := 7) smVM rfl (by decide) (sm_nocal_ok smT smCl smP smSa shM 0) (fun a D M v e1 e2 => by cases e1; exact e2.symm) (ll65_14 D) rfl (e.symm.trans h) rfl
noncomputable def lf65_0 (D : sm_D) : Nat → List Value → List Value → sm_D → sm_M → Option (sm_S) := fun pc ls st D' M =>
  if pc = 14 then (match ls, st with
    | [gl0], [] => (jR_isBlock_14 D' M)
    | _, _ => none)
  else if pc = 15 then (match ls, st with
    | [gl0], [.int bs0] => (jR_isBlock_15 bs0 D' M)
    | _, _ => none)
  else none
theorem ll65_0 (D : sm_D) {R : sm_S} : ∀ (pc : Nat) (ls st : List Value) (D' : sm_D) (M : sm_M) (v : sm_S), (lf65_0 D) pc ls st D' M = some v → (fun v => v = R) v → sm_WJ smT smCl smSa shM f65 0 pc ls st D' M R := by
  intro pc ls st D' M v h hv
  unfold lf65_0 at h
  split at h
  · rename_i hp0
    subst hp0
    split at h
    · skip
      have hv : v = R := hv
      subst hv
      exact w65_14  h
    · cases h
  · skip
    split at h
    · rename_i hp0
      subst hp0
      split at h
      · skip
        have hv : v = R := hv
        subst hv
        exact w65_15  h
      · cases h
    · skip
      cases h
set_option maxRecDepth 20000 in
set_option maxHeartbeats 4000000 in
theorem we65 {l0 : Int32} {D : sm_D} {M : sm_M} {R : sm_S} (h : jR_isBlock l0 D M = some R) : sm_WJ smT smCl smSa shM f65 0 0 [.int l0] [] D M R := by
  have e : jR_isBlock l0 D M = (sm_run shM smSa sm_nocal c65 true (fun a D M => some (a, D, M)) (lf65_0 D) 14 (c65.drop 0) [.int l0] [] D M : Option (sm_S)) := rfl
  exact sm_blk (ρ := sm_S) (gd := (fun v => v = R)) (kx := 65) (i := 0) smVM rfl (by decide) (sm_nocal_ok smT smCl smP smSa shM 0) (fun a D M v e1 e2 => by cases e1; exact e2.symm) (ll65_0 D) rfl (e.symm.trans h) rfl
theorem m65 {l0 : Int32} {D : sm_D} {M : sm_M} {R : sm_S} (h : jR_isBlock l0 D M = some R) : sm_MJ smT smCl smSa shM f65 0 [.int l0] D M R :=
  sm_met (by decide) (Nat.le_of_ble_eq_true rfl) (List.all_eq_true.mp rfl) (we65  h)

-- jR_fits
noncomputable def cal66  : sm_Cal := fun x as D M =>
  if x = 64 then (match as with
    | [.int a0] => (jR_isRegister a0 D M)
    | _ => none)
  else if x = 65 then (match as with
    | [.int a0] => (jR_isBlock a0 D M)
    | _ => none)
  else if x = 19 then (match as with
    | [.ref 1, .int a1] => (jR_isMade a1 D M)
    | _ => none)
  else none
theorem ck66  : sm_CalOk smT smCl smP smSa shM 1 cal66 := by
  intro x g as D M R hx h
  unfold cal66 at h
  split at h
  · rename_i hx'
    subst hx'
    cases (show smP[64]? = some f64 from rfl).symm.trans hx
    split at h
    · skip
      exact Or.inl ⟨0, by omega, m64   h⟩
    · cases h
  · skip
    split at h
    · rename_i hx'
      subst hx'
      cases (show smP[65]? = some f65 from rfl).symm.trans hx
      split at h
      · skip
        exact Or.inl ⟨0, by omega, m65   h⟩
      · cases h
    · skip
      split at h
      · rename_i hx'
        subst hx'
        cases (show smP[19]? = some f19 from rfl).symm.trans hx
        split at h
        · skip
          exact Or.inl ⟨0, by omega, m19   h⟩
        · cases h
      · skip
        cases h
set_option maxRecDepth 20000 in
set_option maxHeartbeats 4000000 in
theorem w66_64 {l2 : Int32} {g0 g1 g3 g4 : Value} {D : sm_D} {M : sm_M} {R : sm_S} (h : jR_fits_64 l2 D M = some R) : sm_WJ smT smCl smSa shM f66 1 64 [g0, g1, .int l2, g3, g4] [] D M R := by
  have e : jR_fits_64 l2 D M = (sm_run shM smSa cal66 c66 true (fun a D M => some (a, D, M)) sm_noleaf 85 (c66.drop 2) [g0, g1, .int l2, g3, g4] [] D M : Option (sm_S)) := rfl
  exact sm_blk (ρ := sm_S) (gd := (fun v => v = R)) (kx := 66) (i := 2) smVM rfl (by decide) ck66 (fun a D M v e1 e2 => by cases e1; exact e2.symm) (sm_noleaf_ok) rfl (e.symm.trans h) rfl
set_option maxRecDepth 20000 in
set_option maxHeartbeats 4000000 in
theorem w66_96 {s0 : Int32} {g0 g1 g2 g3 g4 : Value} {D : sm_D} {M : sm_M} {R : sm_S} (h : jR_fits_96 s0 D M = some R) : sm_WJ smT smCl smSa shM f66 1 96 [g0, g1, g2, g3, g4] [.int s0] D M R := by
  have e : jR_fits_96 s0 D M = (sm_run shM smSa cal66 c66 true (fun a D M => some (a, D, M)) sm_noleaf 85 (c66.drop 17) [g0, g1, g2, g3, g4] [.int s0] D M : Option (sm_S)) := rfl
  exact sm_blk (ρ := sm_S) (gd := (fun v => v = R)) (kx := 66) (i := 17) smVM rfl (by decide) ck66 (fun a D M v e1 e2 => by cases e1; exact e2.symm) (sm_noleaf_ok) rfl (e.symm.trans h) rfl
noncomputable def lf66_95 (D : sm_D) : Nat → List Value → List Value → sm_D → sm_M → Option (sm_S) := fun pc ls st D' M =>
  if pc = 96 then (match ls, st with
    | [gl0, gl1, gl2, gl3, gl4], [.int bs0] => (jR_fits_96 bs0 D' M)
    | _, _ => none)
  else none
theorem ll66_95 (D : sm_D) {R : sm_S} : ∀ (pc : Nat) (ls st : List Value) (D' : sm_D) (M : sm_M) (v : sm_S), (lf66_95 D) pc ls st D' M = some v → (fun v => v = R) v → sm_WJ smT smCl smSa shM f66 1 pc ls st D' M R := by
  intro pc ls st D' M v h hv
  unfold lf66_95 at h
  split at h
  · rename_i hp0
    subst hp0
    split at h
    · skip
      have hv : v = R := hv
      subst hv
      exact w66_96  h
    · cases h
  · skip
    cases h
set_option maxRecDepth 20000 in
set_option maxHeartbeats 4000000 in
theorem w66_95 {g0 g1 g2 g3 g4 : Value} {D : sm_D} {M : sm_M} {R : sm_S} (h : jR_fits_95 D M = some R) : sm_WJ smT smCl smSa shM f66 1 95 [g0, g1, g2, g3, g4] [] D M R := by
  have e : jR_fits_95 D M = (sm_run shM smSa cal66 c66 true (fun a D M => some (a, D, M)) (lf66_95 D) 85 (c66.drop 16) [g0, g1, g2, g3, g4] [] D M : Option (sm_S)) := rfl
  exact sm_blk (ρ := sm_S) (gd := (fun v => v = R)) (kx := 66) (i := 16) smVM rfl (by decide) ck66 (fun a D M v e1 e2 => by cases e1; exact e2.symm) (ll66_95 D) rfl (e.symm.trans h) rfl
noncomputable def lf66_69 (D : sm_D) : Nat → List Value → List Value → sm_D → sm_M → Option (sm_S) := fun pc ls st D' M =>
  if pc = 95 then (match ls, st with
    | [gl0, gl1, gl2, gl3, gl4], [] => (jR_fits_95 D' M)
    | _, _ => none)
  else if pc = 96 then (match ls, st with
    | [gl0, gl1, gl2, gl3, gl4], [.int bs0] => (jR_fits_96 bs0 D' M)
    | _, _ => none)
  else none
theorem ll66_69 (D : sm_D) {R : sm_S} : ∀ (pc : Nat) (ls st : List Value) (D' : sm_D) (M : sm_M) (v : sm_S), (lf66_69 D) pc ls st D' M = some v → (fun v => v = R) v → sm_WJ smT smCl smSa shM f66 1 pc ls st D' M R := by
  intro pc ls st D' M v h hv
  unfold lf66_69 at h
  split at h
  · rename_i hp0
    subst hp0
    split at h
    · skip
      have hv : v = R := hv
      subst hv
      exact w66_95  h
    · cases h
  · skip
    split at h
    · rename_i hp0
      subst hp0
      split at h
      · skip
        have hv : v = R := hv
        subst hv
        exact w66_96  h
      · cases h
    · skip
      cases h
set_option maxRecDepth 20000 in
set_option maxHeartbeats 4000000 in
theorem w66_69 {l2 l3 l4 : Int32} {g0 g1 : Value} {D : sm_D} {M : sm_M} {R : sm_S} (h : jR_fits_69 l2 l3 l4 D M = some R) : sm_WJ smT smCl smSa shM f66 1 69 [g0, g1, .int l2, .int l3, .int l4] [] D M R := by
  have e : jR_fits_69 l2 l3 l4 D M = (sm_run shM smSa cal66 c66 true (fun a D M => some (a, D, M)) (lf66_69 D) 85 (c66.drop 5) [g0, g1, .int l2, .int l3, .int l4] [] D M : Option (sm_S)) := rfl
  exact sm_blk (ρ := sm_S) (gd := (fun v => v = R)) (kx := 66) (i := 5) smVM rfl (by decide) ck66 (fun a D M v e1 e2 => by cases e1; exact e2.symm) (ll66_69 D) rfl (e.symm.trans h) rfl
set_option maxRecDepth 20000 in
set_option maxHeartbeats 4000000 in
theorem w66_127 {s0 : Int32} {g0 g1 g2 g3 g4 : Value} {D : sm_D} {M : sm_M} {R : sm_S} (h : jR_fits_127 s0 D M = some R) : sm_WJ smT smCl smSa shM f66 1 127 [g0, g1, g2, g3, g4] [.int s0] D M R := by
  have e : jR_fits_127 s0 D M = (sm_run shM smSa cal66 c66 true (fun a D M => some (a, D, M)) sm_noleaf 85 (c66.drop 32) [g0, g1, g2, g3, g4] [.int s0] D M : Option (sm_S)) := rfl
  exact sm_blk (ρ := sm_S) (gd := (fun v => v = R)) (kx := 66) (i := 32) smVM rfl (by decide) ck66 (fun a D M v e1 e2 => by cases e1; exact e2.symm) (sm_noleaf_ok) rfl (e.symm.trans h) rfl
noncomputable def lf66_122 (D : sm_D) : Nat → List Value → List Value → sm_D → sm_M → Option (sm_S) := fun pc ls st D' M =>
  if pc = 127 then (match ls, st with
    | [gl0, gl1, gl2, gl3, gl4], [.int bs0] => (jR_fits_127 bs0 D' M)
    | _, _ => none)
  else none
theorem ll66_122 (D : sm_D) {R : sm_S} : ∀ (pc : Nat) (ls st : List Value) (D' : sm_D) (M : sm_M) (v : sm_S), (lf66_122 D) pc ls st D' M = some v → (fun v => v = R) v → sm_WJ smT smCl smSa shM f66 1 pc ls st D' M R := by
  intro pc ls st D' M v h hv
  unfold lf66_122 at h
  split at h
  · rename_i hp0
    subst hp0
    split at h
    · skip
      have hv : v = R := hv
      subst hv
      exact w66_127  h
    · cases h
  · skip
    cases h
set_option maxRecDepth 20000 in
set_option maxHeartbeats 4000000 in
theorem w66_122 {g0 g1 g2 g3 g4 : Value} {D : sm_D} {M : sm_M} {R : sm_S} (h : jR_fits_122 D M = some R) : sm_WJ smT smCl smSa shM f66 1 122 [g0, g1, g2, g3, g4] [] D M R := by
  have e : jR_fits_122 D M = (sm_run shM smSa cal66 c66 true (fun a D M => some (a, D, M)) (lf66_122 D) 85 (c66.drop 29) [g0, g1, g2, g3, g4] [] D M : Option (sm_S)) := rfl
  exact sm_blk (ρ := sm_S) (gd := (fun v => v = R)) (kx := 66) (i := 29) smVM rfl (by decide) ck66 (fun a D M v e1 e2 => by cases e1; exact e2.symm) (ll66_122 D) rfl (e.symm.trans h) rfl
noncomputable def lf66_126 (D : sm_D) : Nat → List Value → List Value → sm_D → sm_M → Option (sm_S) := fun pc ls st D' M =>
  if pc = 127 then (match ls, st with
    | [gl0, gl1, gl2, gl3, gl4], [.int bs0] => (jR_fits_127 bs0 D' M)
    | _, _ => none)
  else none
theorem ll66_126 (D : sm_D) {R : sm_S} : ∀ (pc : Nat) (ls st : List Value) (D' : sm_D) (M : sm_M) (v : sm_S), (lf66_126 D) pc ls st D' M = some v → (fun v => v = R) v → sm_WJ smT smCl smSa shM f66 1 pc ls st D' M R := by
  intro pc ls st D' M v h hv
  unfold lf66_126 at h
  split at h
  · rename_i hp0
    subst hp0
    split at h
    · skip
      have hv : v = R := hv
      subst hv
      exact w66_127  h
    · cases h
  · skip
    cases h
set_option maxRecDepth 20000 in
set_option maxHeartbeats 4000000 in
theorem w66_126 {g0 g1 g2 g3 g4 : Value} {D : sm_D} {M : sm_M} {R : sm_S} (h : jR_fits_126 D M = some R) : sm_WJ smT smCl smSa shM f66 1 126 [g0, g1, g2, g3, g4] [] D M R := by
  have e : jR_fits_126 D M = (sm_run shM smSa cal66 c66 true (fun a D M => some (a, D, M)) (lf66_126 D) 85 (c66.drop 31) [g0, g1, g2, g3, g4] [] D M : Option (sm_S)) := rfl
  exact sm_blk (ρ := sm_S) (gd := (fun v => v = R)) (kx := 66) (i := 31) smVM rfl (by decide) ck66 (fun a D M v e1 e2 => by cases e1; exact e2.symm) (ll66_126 D) rfl (e.symm.trans h) rfl
set_option maxRecDepth 20000 in
set_option maxHeartbeats 4000000 in
theorem w66_147 {s0 : Int32} {g0 g1 g2 g3 g4 : Value} {D : sm_D} {M : sm_M} {R : sm_S} (h : jR_fits_147 s0 D M = some R) : sm_WJ smT smCl smSa shM f66 1 147 [g0, g1, g2, g3, g4] [.int s0] D M R := by
  have e : jR_fits_147 s0 D M = (sm_run shM smSa cal66 c66 true (fun a D M => some (a, D, M)) sm_noleaf 85 (c66.drop 42) [g0, g1, g2, g3, g4] [.int s0] D M : Option (sm_S)) := rfl
  exact sm_blk (ρ := sm_S) (gd := (fun v => v = R)) (kx := 66) (i := 42) smVM rfl (by decide) ck66 (fun a D M v e1 e2 => by cases e1; exact e2.symm) (sm_noleaf_ok) rfl (e.symm.trans h) rfl
noncomputable def lf66_146 (D : sm_D) : Nat → List Value → List Value → sm_D → sm_M → Option (sm_S) := fun pc ls st D' M =>
  if pc = 147 then (match ls, st with
    | [gl0, gl1, gl2, gl3, gl4], [.int bs0] => (jR_fits_147 bs0 D' M)
    | _, _ => none)
  else none
theorem ll66_146 (D : sm_D) {R : sm_S} : ∀ (pc : Nat) (ls st : List Value) (D' : sm_D) (M : sm_M) (v : sm_S), (lf66_146 D) pc ls st D' M = some v → (fun v => v = R) v → sm_WJ smT smCl smSa shM f66 1 pc ls st D' M R := by
  intro pc ls st D' M v h hv
  unfold lf66_146 at h
  split at h
  · rename_i hp0
    subst hp0
    split at h
    · skip
      have hv : v = R := hv
      subst hv
      exact w66_147  h
    · cases h
  · skip
    cases h
set_option maxRecDepth 20000 in
set_option maxHeartbeats 4000000 in
theorem w66_146 {g0 g1 g2 g3 g4 : Value} {D : sm_D} {M : sm_M} {R : sm_S} (h : jR_fits_146 D M = some R) : sm_WJ smT smCl smSa shM f66 1 146 [g0, g1, g2, g3, g4] [] D M R := by
  have e : jR_fits_146 D M = (sm_run shM smSa cal66 c66 true (fun a D M => some (a, D, M)) (lf66_146 D) 85 (c66.drop 41) [g0, g1, g2, g3, g4] [] D M : Option (sm_S)) := rfl
  exact sm_blk (ρ := sm_S) (gd := (fun v => v = R)) (kx := 66) (i := 41) smVM rfl (by decide) ck66 (fun a D M v e1 e2 => by cases e1; exact e2.symm) (ll66_146 D) rfl (e.symm.trans h) rfl
noncomputable def lf66_128 (D : sm_D) : Nat → List Value → List Value → sm_D → sm_M → Option (sm_S) := fun pc ls st D' M =>
  if pc = 146 then (match ls, st with
    | [gl0, gl1, gl2, gl3, gl4], [] => (jR_fits_146 D' M)
    | _, _ => none)
  else if pc = 147 then (match ls, st with
    | [gl0, gl1, gl2, gl3, gl4], [.int bs0] => (jR_fits_147 bs0 D' M)
    | _, _ => none)
  else none
theorem ll66_128 (D : sm_D) {R : sm_S} : ∀ (pc : Nat) (ls st : List Value) (D' : sm_D) (M : sm_M) (v : sm_S), (lf66_128 D) pc ls st D' M = some v → (fun v => v = R) v → sm_WJ smT smCl smSa shM f66 1 pc ls st D' M R := by
  intro pc ls st D' M v h hv
  unfold lf66_128 at h
  split at h
  · rename_i hp0
    subst hp0
    split at h
    · skip
      have hv : v = R := hv
      subst hv
      exact w66_146  h
    · cases h
  · skip
    split at h
    · rename_i hp0
      subst hp0
      split at h
      · skip
        have hv : v = R := hv
        subst hv
        exact w66_147  h
      · cases h
    · skip
      cases h
set_option maxRecDepth 20000 in
set_option maxHeartbeats 4000000 in
theorem w66_128 {l2 l3 : Int32} {g0 g1 g4 : Value} {D : sm_D} {M : sm_M} {R : sm_S} (h : jR_fits_128 l2 l3 D M = some R) : sm_WJ smT smCl smSa shM f66 1 128 [g0, g1, .int l2, .int l3, g4] [] D M R := by
  have e : jR_fits_128 l2 l3 D M = (sm_run shM smSa cal66 c66 true (fun a D M => some (a, D, M)) (lf66_128 D) 85 (c66.drop 33) [g0, g1, .int l2, .int l3, g4] [] D M : Option (sm_S)) := rfl
  exact sm_blk (ρ := sm_S) (gd := (fun v => v = R)) (kx := 66) (i := 33) smVM rfl (by decide) ck66 (fun a D M v e1 e2 => by cases e1; exact e2.symm) (ll66_128 D) rfl (e.symm.trans h) rfl
set_option maxRecDepth 20000 in
set_option maxHeartbeats 4000000 in
theorem w66_208 {s0 : Int32} {g0 g1 g2 g3 g4 : Value} {D : sm_D} {M : sm_M} {R : sm_S} (h : jR_fits_208 s0 D M = some R) : sm_WJ smT smCl smSa shM f66 1 208 [g0, g1, g2, g3, g4] [.int s0] D M R := by
  have e : jR_fits_208 s0 D M = (sm_run shM smSa cal66 c66 true (fun a D M => some (a, D, M)) sm_noleaf 85 (c66.drop 74) [g0, g1, g2, g3, g4] [.int s0] D M : Option (sm_S)) := rfl
  exact sm_blk (ρ := sm_S) (gd := (fun v => v = R)) (kx := 66) (i := 74) smVM rfl (by decide) ck66 (fun a D M v e1 e2 => by cases e1; exact e2.symm) (sm_noleaf_ok) rfl (e.symm.trans h) rfl
noncomputable def lf66_203 (D : sm_D) : Nat → List Value → List Value → sm_D → sm_M → Option (sm_S) := fun pc ls st D' M =>
  if pc = 208 then (match ls, st with
    | [gl0, gl1, gl2, gl3, gl4], [.int bs0] => (jR_fits_208 bs0 D' M)
    | _, _ => none)
  else none
theorem ll66_203 (D : sm_D) {R : sm_S} : ∀ (pc : Nat) (ls st : List Value) (D' : sm_D) (M : sm_M) (v : sm_S), (lf66_203 D) pc ls st D' M = some v → (fun v => v = R) v → sm_WJ smT smCl smSa shM f66 1 pc ls st D' M R := by
  intro pc ls st D' M v h hv
  unfold lf66_203 at h
  split at h
  · rename_i hp0
    subst hp0
    split at h
    · skip
      have hv : v = R := hv
      subst hv
      exact w66_208  h
    · cases h
  · skip
    cases h
set_option maxRecDepth 20000 in
set_option maxHeartbeats 4000000 in
theorem w66_203 {g0 g1 g2 g3 g4 : Value} {D : sm_D} {M : sm_M} {R : sm_S} (h : jR_fits_203 D M = some R) : sm_WJ smT smCl smSa shM f66 1 203 [g0, g1, g2, g3, g4] [] D M R := by
  have e : jR_fits_203 D M = (sm_run shM smSa cal66 c66 true (fun a D M => some (a, D, M)) (lf66_203 D) 85 (c66.drop 71) [g0, g1, g2, g3, g4] [] D M : Option (sm_S)) := rfl
  exact sm_blk (ρ := sm_S) (gd := (fun v => v = R)) (kx := 66) (i := 71) smVM rfl (by decide) ck66 (fun a D M v e1 e2 => by cases e1; exact e2.symm) (ll66_203 D) rfl (e.symm.trans h) rfl
noncomputable def lf66_207 (D : sm_D) : Nat → List Value → List Value → sm_D → sm_M → Option (sm_S) := fun pc ls st D' M =>
  if pc = 208 then (match ls, st with
    | [gl0, gl1, gl2, gl3, gl4], [.int bs0] => (jR_fits_208 bs0 D' M)
    | _, _ => none)
  else none
theorem ll66_207 (D : sm_D) {R : sm_S} : ∀ (pc : Nat) (ls st : List Value) (D' : sm_D) (M : sm_M) (v : sm_S), (lf66_207 D) pc ls st D' M = some v → (fun v => v = R) v → sm_WJ smT smCl smSa shM f66 1 pc ls st D' M R := by
  intro pc ls st D' M v h hv
  unfold lf66_207 at h
  split at h
  · rename_i hp0
    subst hp0
    split at h
    · skip
      have hv : v = R := hv
      subst hv
      exact w66_208  h
    · cases h
  · skip
    cases h
set_option maxRecDepth 20000 in
set_option maxHeartbeats 4000000 in
theorem w66_207 {g0 g1 g2 g3 g4 : Value} {D : sm_D} {M : sm_M} {R : sm_S} (h : jR_fits_207 D M = some R) : sm_WJ smT smCl smSa shM f66 1 207 [g0, g1, g2, g3, g4] [] D M R := by
  have e : jR_fits_207 D M = (sm_run shM smSa cal66 c66 true (fun a D M => some (a, D, M)) (lf66_207 D) 85 (c66.drop 73) [g0, g1, g2, g3, g4] [] D M : Option (sm_S)) := rfl
  exact sm_blk (ρ := sm_S) (gd := (fun v => v = R)) (kx := 66) (i := 73) smVM rfl (by decide) ck66 (fun a D M v e1 e2 => by cases e1; exact e2.symm) (ll66_207 D) rfl (e.symm.trans h) rfl
noncomputable def lf66_0 (D : sm_D) : Nat → List Value → List Value → sm_D → sm_M → Option (sm_S) := fun pc ls st D' M =>
  if pc = 64 then (match ls, st with
    | [gl0, gl1, .int bl2, gl3, gl4], [] => (jR_fits_64 bl2 D' M)
    | _, _ => none)
  else if pc = 69 then (match ls, st with
    | [gl0, gl1, .int bl2, .int bl3, .int bl4], [] => (jR_fits_69 bl2 bl3 bl4 D' M)
    | _, _ => none)
  else if pc = 122 then (match ls, st with
    | [gl0, gl1, gl2, gl3, gl4], [] => (jR_fits_122 D' M)
    | _, _ => none)
  else if pc = 126 then (match ls, st with
    | [gl0, gl1, gl2, gl3, gl4], [] => (jR_fits_126 D' M)
    | _, _ => none)
  else if pc = 128 then (match ls, st with
    | [gl0, gl1, .int bl2, .int bl3, gl4], [] => (jR_fits_128 bl2 bl3 D' M)
    | _, _ => none)
  else if pc = 203 then (match ls, st with
    | [gl0, gl1, gl2, gl3, gl4], [] => (jR_fits_203 D' M)
    | _, _ => none)
  else if pc = 207 then (match ls, st with
    | [gl0, gl1, gl2, gl3, gl4], [] => (jR_fits_207 D' M)
    | _, _ => none)
  else none
theorem ll66_0 (D : sm_D) {R : sm_S} : ∀ (pc : Nat) (ls st : List Value) (D' : sm_D) (M : sm_M) (v : sm_S), (lf66_0 D) pc ls st D' M = some v → (fun v => v = R) v → sm_WJ smT smCl smSa shM f66 1 pc ls st D' M R := by
  intro pc ls st D' M v h hv
  unfold lf66_0 at h
  split at h
  · rename_i hp0
    subst hp0
    split at h
    · skip
      have hv : v = R := hv
      subst hv
      exact w66_64  h
    · cases h
  · skip
    split at h
    · rename_i hp0
      subst hp0
      split at h
      · skip
        have hv : v = R := hv
        subst hv
        exact w66_69  h
      · cases h
    · skip
      split at h
      · rename_i hp0
        subst hp0
        split at h
        · skip
          have hv : v = R := hv
          subst hv
          exact w66_122  h
        · cases h
      · skip
        split at h
        · rename_i hp0
          subst hp0
          split at h
          · skip
            have hv : v = R := hv
            subst hv
            exact w66_126  h
          · cases h
        · skip
          split at h
          · rename_i hp0
            subst hp0
            split at h
            · skip
              have hv : v = R := hv
              subst hv
              exact w66_128  h
            · cases h
          · skip
            split at h
            · rename_i hp0
              subst hp0
              split at h
              · skip
                have hv : v = R := hv
                subst hv
                exact w66_203  h
              · cases h
            · skip
              split at h
              · rename_i hp0
                subst hp0
                split at h
                · skip
                  have hv : v = R := hv
                  subst hv
                  exact w66_207  h
                · cases h
              · skip
                cases h
set_option maxRecDepth 20000 in
set_option maxHeartbeats 4000000 in
theorem we66 {l1 l2 l3 l4 : Int32} {D : sm_D} {M : sm_M} {R : sm_S} (h : jR_fits l1 l2 l3 l4 D M = some R) : sm_WJ smT smCl smSa shM f66 1 0 [.ref 1, .int l1, .int l2, .int l3, .int l4] [] D M R := by
  have e : jR_fits l1 l2 l3 l4 D M = (sm_run shM smSa cal66 c66 true (fun a D M => some (a, D, M)) (lf66_0 D) 85 (c66.drop 0) [.ref 1, .int l1, .int l2, .int l3, .int l4] [] D M : Option (sm_S)) := rfl
  exact sm_blk (ρ := sm_S) (gd := (fun v => v = R)) (kx := 66) (i := 0) smVM rfl (by decide) ck66 (fun a D M v e1 e2 => by cases e1; exact e2.symm) (ll66_0 D) rfl (e.symm.trans h) rfl
theorem m66 {l1 l2 l3 l4 : Int32} {D : sm_D} {M : sm_M} {R : sm_S} (h : jR_fits l1 l2 l3 l4 D M = some R) : sm_MJ smT smCl smSa shM f66 1 [.ref 1, .int l1, .int l2, .int l3, .int l4] D M R :=
  sm_met (by decide) (Nat.le_of_ble_eq_true rfl) (List.all_eq_true.mp rfl) (we66  h)

-- jR_add
noncomputable def cal67  : sm_Cal := fun x as D M =>
  if x = 66 then (match as with
    | [.ref 1, .int a1, .int a2, .int a3, .int a4] => (jR_fits a1 a2 a3 a4 D M)
    | _ => none)
  else if x = 40 then (match as with
    | [.ref 1, .int a1, .int a2, .int a3, .int a4] => (jR_emit a1 a2 a3 a4 D M)
    | _ => none)
  else if x = 79 then (match as with
    | [.ref 1] => (jR_restart D M)
    | _ => none)
  else none
theorem ck67  : sm_CalOk smT smCl smP smSa shM 2 cal67 := by
  intro x g as D M R hx h
  unfold cal67 at h
  split at h
  · rename_i hx'
    subst hx'
    cases (show smP[66]? = some f66 from rfl).symm.trans hx
    split at h
    · skip
      exact Or.inl ⟨1, by omega, m66   h⟩
    · cases h
  · skip
    split at h
    · rename_i hx'
      subst hx'
      cases (show smP[40]? = some f40 from rfl).symm.trans hx
      split at h
      · skip
        exact Or.inl ⟨0, by omega, m40   h⟩
      · cases h
    · skip
      split at h
      · rename_i hx'
        subst hx'
        cases (show smP[79]? = some f79 from rfl).symm.trans hx
        split at h
        · skip
          exact Or.inl ⟨0, by omega, m79   h⟩
        · cases h
      · skip
        cases h
set_option maxRecDepth 20000 in
set_option maxHeartbeats 4000000 in
theorem w67_51 {g0 g1 g2 g3 g4 g5 g6 g7 : Value} {D : sm_D} {M : sm_M} {R : sm_S} (h : jR_add_51 D M = some R) : sm_WJ smT smCl smSa shM f67 2 51 [g0, g1, g2, g3, g4, g5, g6, g7] [] D M R := by
  have e : jR_add_51 D M = (sm_run shM smSa cal67 c67 false (fun a D M => some (a, D, M)) sm_noleaf 107 (c67.drop 25) [g0, g1, g2, g3, g4, g5, g6, g7] [] D M : Option (sm_S)) := rfl
  exact sm_blk (ρ := sm_S) (gd := (fun v => v = R)) (kx := 67) (i := 25) smVM rfl (by decide) ck67 (fun a D M v e1 e2 => by cases e1; exact e2.symm) (sm_noleaf_ok) rfl (e.symm.trans h) rfl
set_option maxRecDepth 20000 in
set_option maxHeartbeats 4000000 in
theorem w67_187 {s1 s2 s3 s4 : Int32} {g1 g2 g3 g4 g5 g6 g7 : Value} {D : sm_D} {M : sm_M} {R : sm_S} (h : jR_add_187 s1 s2 s3 s4 D M = some R) : sm_WJ smT smCl smSa shM f67 2 187 [.ref 1, g1, g2, g3, g4, g5, g6, g7] [.int s4, .int s3, .int s2, .int s1, .ref 1] D M R := by
  have e : jR_add_187 s1 s2 s3 s4 D M = (sm_run shM smSa cal67 c67 false (fun a D M => some (a, D, M)) sm_noleaf 107 (c67.drop 96) [.ref 1, g1, g2, g3, g4, g5, g6, g7] [.int s4, .int s3, .int s2, .int s1, .ref 1] D M : Option (sm_S)) := rfl
  exact sm_blk (ρ := sm_S) (gd := (fun v => v = R)) (kx := 67) (i := 96) smVM rfl (by decide) ck67 (fun a D M v e1 e2 => by cases e1; exact e2.symm) (sm_noleaf_ok) rfl (e.symm.trans h) rfl
noncomputable def lf67_165 (D : sm_D) : Nat → List Value → List Value → sm_D → sm_M → Option (sm_S) := fun pc ls st D' M =>
  if pc = 187 then (match ls, st with
    | [.ref 1, gl1, gl2, gl3, gl4, gl5, gl6, gl7], [.int bs4, .int bs3, .int bs2, .int bs1, .ref 1] => (jR_add_187 bs1 bs2 bs3 bs4 D' M)
    | _, _ => none)
  else none
theorem ll67_165 (D : sm_D) {R : sm_S} : ∀ (pc : Nat) (ls st : List Value) (D' : sm_D) (M : sm_M) (v : sm_S), (lf67_165 D) pc ls st D' M = some v → (fun v => v = R) v → sm_WJ smT smCl smSa shM f67 2 pc ls st D' M R := by
  intro pc ls st D' M v h hv
  unfold lf67_165 at h
  split at h
  · rename_i hp0
    subst hp0
    split at h
    · skip
      have hv : v = R := hv
      subst hv
      exact w67_187  h
    · cases h
  · skip
    cases h
set_option maxRecDepth 20000 in
set_option maxHeartbeats 4000000 in
theorem w67_165 {s1 s2 s3 : Int32} {g1 g2 g3 g4 g5 g6 g7 : Value} {D : sm_D} {M : sm_M} {R : sm_S} (h : jR_add_165 s1 s2 s3 D M = some R) : sm_WJ smT smCl smSa shM f67 2 165 [.ref 1, g1, g2, g3, g4, g5, g6, g7] [.int s3, .int s2, .int s1, .ref 1] D M R := by
  have e : jR_add_165 s1 s2 s3 D M = (sm_run shM smSa cal67 c67 false (fun a D M => some (a, D, M)) (lf67_165 D) 107 (c67.drop 85) [.ref 1, g1, g2, g3, g4, g5, g6, g7] [.int s3, .int s2, .int s1, .ref 1] D M : Option (sm_S)) := rfl
  exact sm_blk (ρ := sm_S) (gd := (fun v => v = R)) (kx := 67) (i := 85) smVM rfl (by decide) ck67 (fun a D M v e1 e2 => by cases e1; exact e2.symm) (ll67_165 D) rfl (e.symm.trans h) rfl
noncomputable def lf67_150 (D : sm_D) : Nat → List Value → List Value → sm_D → sm_M → Option (sm_S) := fun pc ls st D' M =>
  if pc = 165 then (match ls, st with
    | [.ref 1, gl1, gl2, gl3, gl4, gl5, gl6, gl7], [.int bs3, .int bs2, .int bs1, .ref 1] => (jR_add_165 bs1 bs2 bs3 D' M)
    | _, _ => none)
  else if pc = 187 then (match ls, st with
    | [.ref 1, gl1, gl2, gl3, gl4, gl5, gl6, gl7], [.int bs4, .int bs3, .int bs2, .int bs1, .ref 1] => (jR_add_187 bs1 bs2 bs3 bs4 D' M)
    | _, _ => none)
  else none
theorem ll67_150 (D : sm_D) {R : sm_S} : ∀ (pc : Nat) (ls st : List Value) (D' : sm_D) (M : sm_M) (v : sm_S), (lf67_150 D) pc ls st D' M = some v → (fun v => v = R) v → sm_WJ smT smCl smSa shM f67 2 pc ls st D' M R := by
  intro pc ls st D' M v h hv
  unfold lf67_150 at h
  split at h
  · rename_i hp0
    subst hp0
    split at h
    · skip
      have hv : v = R := hv
      subst hv
      exact w67_165  h
    · cases h
  · skip
    split at h
    · rename_i hp0
      subst hp0
      split at h
      · skip
        have hv : v = R := hv
        subst hv
        exact w67_187  h
      · cases h
    · skip
      cases h
set_option maxRecDepth 20000 in
set_option maxHeartbeats 4000000 in
theorem w67_150 {l1 l4 l5 l6 l7 s1 s2 s3 : Int32} {g2 g3 : Value} {D : sm_D} {M : sm_M} {R : sm_S} (h : jR_add_150 l1 l4 l5 l6 l7 s1 s2 s3 D M = some R) : sm_WJ smT smCl smSa shM f67 2 150 [.ref 1, .int l1, g2, g3, .int l4, .int l5, .int l6, .int l7] [.int s3, .int s2, .int s1, .ref 1] D M R := by
  have e : jR_add_150 l1 l4 l5 l6 l7 s1 s2 s3 D M = (sm_run shM smSa cal67 c67 false (fun a D M => some (a, D, M)) (lf67_150 D) 107 (c67.drop 79) [.ref 1, .int l1, g2, g3, .int l4, .int l5, .int l6, .int l7] [.int s3, .int s2, .int s1, .ref 1] D M : Option (sm_S)) := rfl
  exact sm_blk (ρ := sm_S) (gd := (fun v => v = R)) (kx := 67) (i := 79) smVM rfl (by decide) ck67 (fun a D M v e1 e2 => by cases e1; exact e2.symm) (ll67_150 D) rfl (e.symm.trans h) rfl
noncomputable def lf67_145 (D : sm_D) : Nat → List Value → List Value → sm_D → sm_M → Option (sm_S) := fun pc ls st D' M =>
  if pc = 150 then (match ls, st with
    | [.ref 1, .int bl1, gl2, gl3, .int bl4, .int bl5, .int bl6, .int bl7], [.int bs3, .int bs2, .int bs1, .ref 1] => (jR_add_150 bl1 bl4 bl5 bl6 bl7 bs1 bs2 bs3 D' M)
    | _, _ => none)
  else none
theorem ll67_145 (D : sm_D) {R : sm_S} : ∀ (pc : Nat) (ls st : List Value) (D' : sm_D) (M : sm_M) (v : sm_S), (lf67_145 D) pc ls st D' M = some v → (fun v => v = R) v → sm_WJ smT smCl smSa shM f67 2 pc ls st D' M R := by
  intro pc ls st D' M v h hv
  unfold lf67_145 at h
  split at h
  · rename_i hp0
    subst hp0
    split at h
    · skip
      have hv : v = R := hv
      subst hv
      exact w67_150  h
    · cases h
  · skip
    cases h
set_option maxRecDepth 20000 in
set_option maxHeartbeats 4000000 in
theorem w67_145 {l1 l4 l5 l6 l7 s1 s2 : Int32} {g2 g3 : Value} {D : sm_D} {M : sm_M} {R : sm_S} (h : jR_add_145 l1 l4 l5 l6 l7 s1 s2 D M = some R) : sm_WJ smT smCl smSa shM f67 2 145 [.ref 1, .int l1, g2, g3, .int l4, .int l5, .int l6, .int l7] [.int s2, .int s1, .ref 1] D M R := by
  have e : jR_add_145 l1 l4 l5 l6 l7 s1 s2 D M = (sm_run shM smSa cal67 c67 false (fun a D M => some (a, D, M)) (lf67_145 D) 107 (c67.drop 76) [.ref 1, .int l1, g2, g3, .int l4, .int l5, .int l6, .int l7] [.int s2, .int s1, .ref 1] D M : Option (sm_S)) := rfl
  exact sm_blk (ρ := sm_S) (gd := (fun v => v = R)) (kx := 67) (i := 76) smVM rfl (by decide) ck67 (fun a D M v e1 e2 => by cases e1; exact e2.symm) (ll67_145 D) rfl (e.symm.trans h) rfl
noncomputable def lf67_135 (D : sm_D) : Nat → List Value → List Value → sm_D → sm_M → Option (sm_S) := fun pc ls st D' M =>
  if pc = 145 then (match ls, st with
    | [.ref 1, .int bl1, gl2, gl3, .int bl4, .int bl5, .int bl6, .int bl7], [.int bs2, .int bs1, .ref 1] => (jR_add_145 bl1 bl4 bl5 bl6 bl7 bs1 bs2 D' M)
    | _, _ => none)
  else if pc = 150 then (match ls, st with
    | [.ref 1, .int bl1, gl2, gl3, .int bl4, .int bl5, .int bl6, .int bl7], [.int bs3, .int bs2, .int bs1, .ref 1] => (jR_add_150 bl1 bl4 bl5 bl6 bl7 bs1 bs2 bs3 D' M)
    | _, _ => none)
  else none
theorem ll67_135 (D : sm_D) {R : sm_S} : ∀ (pc : Nat) (ls st : List Value) (D' : sm_D) (M : sm_M) (v : sm_S), (lf67_135 D) pc ls st D' M = some v → (fun v => v = R) v → sm_WJ smT smCl smSa shM f67 2 pc ls st D' M R := by
  intro pc ls st D' M v h hv
  unfold lf67_135 at h
  split at h
  · rename_i hp0
    subst hp0
    split at h
    · skip
      have hv : v = R := hv
      subst hv
      exact w67_145  h
    · cases h
  · skip
    split at h
    · rename_i hp0
      subst hp0
      split at h
      · skip
        have hv : v = R := hv
        subst hv
        exact w67_150  h
      · cases h
    · skip
      cases h
set_option maxRecDepth 20000 in
set_option maxHeartbeats 4000000 in
theorem w67_135 {l1 l3 l4 l5 l6 l7 s1 s2 : Int32} {g2 : Value} {D : sm_D} {M : sm_M} {R : sm_S} (h : jR_add_135 l1 l3 l4 l5 l6 l7 s1 s2 D M = some R) : sm_WJ smT smCl smSa shM f67 2 135 [.ref 1, .int l1, g2, .int l3, .int l4, .int l5, .int l6, .int l7] [.int s2, .int s1, .ref 1] D M R := by
  have e : jR_add_135 l1 l3 l4 l5 l6 l7 s1 s2 D M = (sm_run shM smSa cal67 c67 false (fun a D M => some (a, D, M)) (lf67_135 D) 107 (c67.drop 72) [.ref 1, .int l1, g2, .int l3, .int l4, .int l5, .int l6, .int l7] [.int s2, .int s1, .ref 1] D M : Option (sm_S)) := rfl
  exact sm_blk (ρ := sm_S) (gd := (fun v => v = R)) (kx := 67) (i := 72) smVM rfl (by decide) ck67 (fun a D M v e1 e2 => by cases e1; exact e2.symm) (ll67_135 D) rfl (e.symm.trans h) rfl
noncomputable def lf67_121 (D : sm_D) : Nat → List Value → List Value → sm_D → sm_M → Option (sm_S) := fun pc ls st D' M =>
  if pc = 135 then (match ls, st with
    | [.ref 1, .int bl1, gl2, .int bl3, .int bl4, .int bl5, .int bl6, .int bl7], [.int bs2, .int bs1, .ref 1] => (jR_add_135 bl1 bl3 bl4 bl5 bl6 bl7 bs1 bs2 D' M)
    | _, _ => none)
  else none
theorem ll67_121 (D : sm_D) {R : sm_S} : ∀ (pc : Nat) (ls st : List Value) (D' : sm_D) (M : sm_M) (v : sm_S), (lf67_121 D) pc ls st D' M = some v → (fun v => v = R) v → sm_WJ smT smCl smSa shM f67 2 pc ls st D' M R := by
  intro pc ls st D' M v h hv
  unfold lf67_121 at h
  split at h
  · rename_i hp0
    subst hp0
    split at h
    · skip
      have hv : v = R := hv
      subst hv
      exact w67_135  h
    · cases h
  · skip
    cases h
set_option maxRecDepth 20000 in
set_option maxHeartbeats 4000000 in
theorem w67_121 {l1 l2 l3 l4 l5 l6 s0 : Int32} {g7 : Value} {D : sm_D} {M : sm_M} {R : sm_S} (h : jR_add_121 l1 l2 l3 l4 l5 l6 s0 D M = some R) : sm_WJ smT smCl smSa shM f67 2 121 [.ref 1, .int l1, .int l2, .int l3, .int l4, .int l5, .int l6, g7] [.int s0] D M R := by
  have e : jR_add_121 l1 l2 l3 l4 l5 l6 s0 D M = (sm_run shM smSa cal67 c67 false (fun a D M => some (a, D, M)) (lf67_121 D) 107 (c67.drop 64) [.ref 1, .int l1, .int l2, .int l3, .int l4, .int l5, .int l6, g7] [.int s0] D M : Option (sm_S)) := rfl
  exact sm_blk (ρ := sm_S) (gd := (fun v => v = R)) (kx := 67) (i := 64) smVM rfl (by decide) ck67 (fun a D M v e1 e2 => by cases e1; exact e2.symm) (ll67_121 D) rfl (e.symm.trans h) rfl
noncomputable def lf67_116 (D : sm_D) : Nat → List Value → List Value → sm_D → sm_M → Option (sm_S) := fun pc ls st D' M =>
  if pc = 121 then (match ls, st with
    | [.ref 1, .int bl1, .int bl2, .int bl3, .int bl4, .int bl5, .int bl6, gl7], [.int bs0] => (jR_add_121 bl1 bl2 bl3 bl4 bl5 bl6 bs0 D' M)
    | _, _ => none)
  else none
theorem ll67_116 (D : sm_D) {R : sm_S} : ∀ (pc : Nat) (ls st : List Value) (D' : sm_D) (M : sm_M) (v : sm_S), (lf67_116 D) pc ls st D' M = some v → (fun v => v = R) v → sm_WJ smT smCl smSa shM f67 2 pc ls st D' M R := by
  intro pc ls st D' M v h hv
  unfold lf67_116 at h
  split at h
  · rename_i hp0
    subst hp0
    split at h
    · skip
      have hv : v = R := hv
      subst hv
      exact w67_121  h
    · cases h
  · skip
    cases h
set_option maxRecDepth 20000 in
set_option maxHeartbeats 4000000 in
theorem w67_116 {l1 l2 l3 l4 l5 l6 : Int32} {g7 : Value} {D : sm_D} {M : sm_M} {R : sm_S} (h : jR_add_116 l1 l2 l3 l4 l5 l6 D M = some R) : sm_WJ smT smCl smSa shM f67 2 116 [.ref 1, .int l1, .int l2, .int l3, .int l4, .int l5, .int l6, g7] [] D M R := by
  have e : jR_add_116 l1 l2 l3 l4 l5 l6 D M = (sm_run shM smSa cal67 c67 false (fun a D M => some (a, D, M)) (lf67_116 D) 107 (c67.drop 61) [.ref 1, .int l1, .int l2, .int l3, .int l4, .int l5, .int l6, g7] [] D M : Option (sm_S)) := rfl
  exact sm_blk (ρ := sm_S) (gd := (fun v => v = R)) (kx := 67) (i := 61) smVM rfl (by decide) ck67 (fun a D M v e1 e2 => by cases e1; exact e2.symm) (ll67_116 D) rfl (e.symm.trans h) rfl
noncomputable def lf67_98 (D : sm_D) : Nat → List Value → List Value → sm_D → sm_M → Option (sm_S) := fun pc ls st D' M =>
  if pc = 116 then (match ls, st with
    | [.ref 1, .int bl1, .int bl2, .int bl3, .int bl4, .int bl5, .int bl6, gl7], [] => (jR_add_116 bl1 bl2 bl3 bl4 bl5 bl6 D' M)
    | _, _ => none)
  else if pc = 121 then (match ls, st with
    | [.ref 1, .int bl1, .int bl2, .int bl3, .int bl4, .int bl5, .int bl6, gl7], [.int bs0] => (jR_add_121 bl1 bl2 bl3 bl4 bl5 bl6 bs0 D' M)
    | _, _ => none)
  else none
theorem ll67_98 (D : sm_D) {R : sm_S} : ∀ (pc : Nat) (ls st : List Value) (D' : sm_D) (M : sm_M) (v : sm_S), (lf67_98 D) pc ls st D' M = some v → (fun v => v = R) v → sm_WJ smT smCl smSa shM f67 2 pc ls st D' M R := by
  intro pc ls st D' M v h hv
  unfold lf67_98 at h
  split at h
  · rename_i hp0
    subst hp0
    split at h
    · skip
      have hv : v = R := hv
      subst hv
      exact w67_116  h
    · cases h
  · skip
    split at h
    · rename_i hp0
      subst hp0
      split at h
      · skip
        have hv : v = R := hv
        subst hv
        exact w67_121  h
      · cases h
    · skip
      cases h
set_option maxRecDepth 20000 in
set_option maxHeartbeats 4000000 in
theorem w67_98 {l1 l2 l3 l4 l5 s0 : Int32} {g6 g7 : Value} {D : sm_D} {M : sm_M} {R : sm_S} (h : jR_add_98 l1 l2 l3 l4 l5 s0 D M = some R) : sm_WJ smT smCl smSa shM f67 2 98 [.ref 1, .int l1, .int l2, .int l3, .int l4, .int l5, g6, g7] [.int s0] D M R := by
  have e : jR_add_98 l1 l2 l3 l4 l5 s0 D M = (sm_run shM smSa cal67 c67 false (fun a D M => some (a, D, M)) (lf67_98 D) 107 (c67.drop 52) [.ref 1, .int l1, .int l2, .int l3, .int l4, .int l5, g6, g7] [.int s0] D M : Option (sm_S)) := rfl
  exact sm_blk (ρ := sm_S) (gd := (fun v => v = R)) (kx := 67) (i := 52) smVM rfl (by decide) ck67 (fun a D M v e1 e2 => by cases e1; exact e2.symm) (ll67_98 D) rfl (e.symm.trans h) rfl
noncomputable def lf67_93 (D : sm_D) : Nat → List Value → List Value → sm_D → sm_M → Option (sm_S) := fun pc ls st D' M =>
  if pc = 98 then (match ls, st with
    | [.ref 1, .int bl1, .int bl2, .int bl3, .int bl4, .int bl5, gl6, gl7], [.int bs0] => (jR_add_98 bl1 bl2 bl3 bl4 bl5 bs0 D' M)
    | _, _ => none)
  else none
theorem ll67_93 (D : sm_D) {R : sm_S} : ∀ (pc : Nat) (ls st : List Value) (D' : sm_D) (M : sm_M) (v : sm_S), (lf67_93 D) pc ls st D' M = some v → (fun v => v = R) v → sm_WJ smT smCl smSa shM f67 2 pc ls st D' M R := by
  intro pc ls st D' M v h hv
  unfold lf67_93 at h
  split at h
  · rename_i hp0
    subst hp0
    split at h
    · skip
      have hv : v = R := hv
      subst hv
      exact w67_98  h
    · cases h
  · skip
    cases h
set_option maxRecDepth 20000 in
set_option maxHeartbeats 4000000 in
theorem w67_93 {l1 l2 l3 l4 l5 : Int32} {g6 g7 : Value} {D : sm_D} {M : sm_M} {R : sm_S} (h : jR_add_93 l1 l2 l3 l4 l5 D M = some R) : sm_WJ smT smCl smSa shM f67 2 93 [.ref 1, .int l1, .int l2, .int l3, .int l4, .int l5, g6, g7] [] D M R := by
  have e : jR_add_93 l1 l2 l3 l4 l5 D M = (sm_run shM smSa cal67 c67 false (fun a D M => some (a, D, M)) (lf67_93 D) 107 (c67.drop 49) [.ref 1, .int l1, .int l2, .int l3, .int l4, .int l5, g6, g7] [] D M : Option (sm_S)) := rfl
  exact sm_blk (ρ := sm_S) (gd := (fun v => v = R)) (kx := 67) (i := 49) smVM rfl (by decide) ck67 (fun a D M v e1 e2 => by cases e1; exact e2.symm) (ll67_93 D) rfl (e.symm.trans h) rfl
noncomputable def lf67_79 (D : sm_D) : Nat → List Value → List Value → sm_D → sm_M → Option (sm_S) := fun pc ls st D' M =>
  if pc = 93 then (match ls, st with
    | [.ref 1, .int bl1, .int bl2, .int bl3, .int bl4, .int bl5, gl6, gl7], [] => (jR_add_93 bl1 bl2 bl3 bl4 bl5 D' M)
    | _, _ => none)
  else if pc = 98 then (match ls, st with
    | [.ref 1, .int bl1, .int bl2, .int bl3, .int bl4, .int bl5, gl6, gl7], [.int bs0] => (jR_add_98 bl1 bl2 bl3 bl4 bl5 bs0 D' M)
    | _, _ => none)
  else none
theorem ll67_79 (D : sm_D) {R : sm_S} : ∀ (pc : Nat) (ls st : List Value) (D' : sm_D) (M : sm_M) (v : sm_S), (lf67_79 D) pc ls st D' M = some v → (fun v => v = R) v → sm_WJ smT smCl smSa shM f67 2 pc ls st D' M R := by
  intro pc ls st D' M v h hv
  unfold lf67_79 at h
  split at h
  · rename_i hp0
    subst hp0
    split at h
    · skip
      have hv : v = R := hv
      subst hv
      exact w67_93  h
    · cases h
  · skip
    split at h
    · rename_i hp0
      subst hp0
      split at h
      · skip
        have hv : v = R := hv
        subst hv
        exact w67_98  h
      · cases h
    · skip
      cases h
set_option maxRecDepth 20000 in
set_option maxHeartbeats 4000000 in
theorem w67_79 {l1 l2 l3 l4 s0 : Int32} {g5 g6 g7 : Value} {D : sm_D} {M : sm_M} {R : sm_S} (h : jR_add_79 l1 l2 l3 l4 s0 D M = some R) : sm_WJ smT smCl smSa shM f67 2 79 [.ref 1, .int l1, .int l2, .int l3, .int l4, g5, g6, g7] [.int s0] D M R := by
  have e : jR_add_79 l1 l2 l3 l4 s0 D M = (sm_run shM smSa cal67 c67 false (fun a D M => some (a, D, M)) (lf67_79 D) 107 (c67.drop 42) [.ref 1, .int l1, .int l2, .int l3, .int l4, g5, g6, g7] [.int s0] D M : Option (sm_S)) := rfl
  exact sm_blk (ρ := sm_S) (gd := (fun v => v = R)) (kx := 67) (i := 42) smVM rfl (by decide) ck67 (fun a D M v e1 e2 => by cases e1; exact e2.symm) (ll67_79 D) rfl (e.symm.trans h) rfl
noncomputable def lf67_0 (D : sm_D) : Nat → List Value → List Value → sm_D → sm_M → Option (sm_S) := fun pc ls st D' M =>
  if pc = 51 then (match ls, st with
    | [gl0, gl1, gl2, gl3, gl4, gl5, gl6, gl7], [] => (jR_add_51 D' M)
    | _, _ => none)
  else if pc = 79 then (match ls, st with
    | [.ref 1, .int bl1, .int bl2, .int bl3, .int bl4, gl5, gl6, gl7], [.int bs0] => (jR_add_79 bl1 bl2 bl3 bl4 bs0 D' M)
    | _, _ => none)
  else none
theorem ll67_0 (D : sm_D) {R : sm_S} : ∀ (pc : Nat) (ls st : List Value) (D' : sm_D) (M : sm_M) (v : sm_S), (lf67_0 D) pc ls st D' M = some v → (fun v => v = R) v → sm_WJ smT smCl smSa shM f67 2 pc ls st D' M R := by
  intro pc ls st D' M v h hv
  unfold lf67_0 at h
  split at h
  · rename_i hp0
    subst hp0
    split at h
    · skip
      have hv : v = R := hv
      subst hv
      exact w67_51  h
    · cases h
  · skip
    split at h
    · rename_i hp0
      subst hp0
      split at h
      · skip
        have hv : v = R := hv
        subst hv
        exact w67_79  h
      · cases h
    · skip
      cases h
set_option maxRecDepth 20000 in
set_option maxHeartbeats 4000000 in
theorem we67 {l1 l2 l3 l4 : Int32} {D : sm_D} {M : sm_M} {R : sm_S} (h : jR_add l1 l2 l3 l4 D M = some R) : sm_WJ smT smCl smSa shM f67 2 0 [.ref 1, .int l1, .int l2, .int l3, .int l4, .retAddr 0, .retAddr 0, .retAddr 0] [] D M R := by
  have e : jR_add l1 l2 l3 l4 D M = (sm_run shM smSa cal67 c67 false (fun a D M => some (a, D, M)) (lf67_0 D) 107 (c67.drop 0) [.ref 1, .int l1, .int l2, .int l3, .int l4, .retAddr 0, .retAddr 0, .retAddr 0] [] D M : Option (sm_S)) := rfl
  exact sm_blk (ρ := sm_S) (gd := (fun v => v = R)) (kx := 67) (i := 0) smVM rfl (by decide) ck67 (fun a D M v e1 e2 => by cases e1; exact e2.symm) (ll67_0 D) rfl (e.symm.trans h) rfl
theorem m67 {l1 l2 l3 l4 : Int32} {D : sm_D} {M : sm_M} {R : sm_S} (h : jR_add l1 l2 l3 l4 D M = some R) : sm_MJ smT smCl smSa shM f67 2 [.ref 1, .int l1, .int l2, .int l3, .int l4] D M R :=
  sm_met (by decide) (Nat.le_of_ble_eq_true rfl) (List.all_eq_true.mp rfl) (we67  h)

-- jR_isCode
set_option maxRecDepth 20000 in
set_option maxHeartbeats 4000000 in
theorem w68_50 {s0 : Int32} {g0 g1 g2 g3 g4 : Value} {D : sm_D} {M : sm_M} {R : sm_S} (h : jR_isCode_50 s0 D M = some R) : sm_WJ smT smCl smSa shM f68 0 50 [g0, g1, g2, g3, g4] [.int s0] D M R := by
  have e : jR_isCode_50 s0 D M = (sm_run shM smSa sm_nocal c68 true (fun a D M => some (a, D, M)) sm_noleaf 35 (c68.drop 29) [g0, g1, g2, g3, g4] [.int s0] D M : Option (sm_S)) := rfl
  exact sm_blk (ρ := sm_S) (gd := (fun v => v = R)) (kx := 68) (i := 29) smVM rfl (by decide) (sm_nocal_ok smT smCl smP smSa shM 0) (fun a D M v e1 e2 => by cases e1; exact e2.symm) (sm_noleaf_ok) rfl (e.symm.trans h) rfl
noncomputable def lf68_49 (D : sm_D) : Nat → List Value → List Value → sm_D → sm_M → Option (sm_S) := fun pc ls st D' M =>
  if pc = 50 then (match ls, st with
    | [gl0, gl1, gl2, gl3, gl4], [.int bs0] => (jR_isCode_50 bs0 D' M)
    | _, _ => none)
  else none
theorem ll68_49 (D : sm_D) {R : sm_S} : ∀ (pc : Nat) (ls st : List Value) (D' : sm_D) (M : sm_M) (v : sm_S), (lf68_49 D) pc ls st D' M = some v → (fun v => v = R) v → sm_WJ smT smCl smSa shM f68 0 pc ls st D' M R := by
  intro pc ls st D' M v h hv
  unfold lf68_49 at h
  split at h
  · rename_i hp0
    subst hp0
    split at h
    · skip
      have hv : v = R := hv
      subst hv
      exact w68_50  h
    · cases h
  · skip
    cases h
set_option maxRecDepth 20000 in
set_option maxHeartbeats 4000000 in
theorem w68_49 {g0 g1 g2 g3 g4 : Value} {D : sm_D} {M : sm_M} {R : sm_S} (h : jR_isCode_49 D M = some R) : sm_WJ smT smCl smSa shM f68 0 49 [g0, g1, g2, g3, g4] [] D M R := by
  have e : jR_isCode_49 D M = (sm_run shM smSa sm_nocal c68 true (fun a D M => some (a, D, M)) (lf68_49 D) 35 (c68.drop 28) [g0, g1, g2, g3, g4] [] D M : Option (sm_S)) := rfl
  exact sm_blk (ρ := sm_S) (gd := (fun v => v = R)) (kx := 68) (i := 28) smVM rfl (by decide) (sm_nocal_ok smT smCl smP smSa shM 0) (fun a D M v e1 e2 => by cases e1; exact e2.symm) (ll68_49 D) rfl (e.symm.trans h) rfl
noncomputable def lf68_0 (D : sm_D) : Nat → List Value → List Value → sm_D → sm_M → Option (sm_S) := fun pc ls st D' M =>
  if pc = 49 then (match ls, st with
    | [gl0, gl1, gl2, gl3, gl4], [] => (jR_isCode_49 D' M)
    | _, _ => none)
  else if pc = 50 then (match ls, st with
    | [gl0, gl1, gl2, gl3, gl4], [.int bs0] => (jR_isCode_50 bs0 D' M)
    | _, _ => none)
  else none
theorem ll68_0 (D : sm_D) {R : sm_S} : ∀ (pc : Nat) (ls st : List Value) (D' : sm_D) (M : sm_M) (v : sm_S), (lf68_0 D) pc ls st D' M = some v → (fun v => v = R) v → sm_WJ smT smCl smSa shM f68 0 pc ls st D' M R := by
  intro pc ls st D' M v h hv
  unfold lf68_0 at h
  split at h
  · rename_i hp0
    subst hp0
    split at h
    · skip
      have hv : v = R := hv
      subst hv
      exact w68_49  h
    · cases h
  · skip
    split at h
    · rename_i hp0
      subst hp0
      split at h
      · skip
        have hv : v = R := hv
        subst hv
        exact w68_50  h
      · cases h
    · skip
      cases h
set_option maxRecDepth 20000 in
set_option maxHeartbeats 4000000 in
theorem we68 {l1 l2 l3 l4 : Int32} {D : sm_D} {M : sm_M} {R : sm_S} (h : jR_isCode l1 l2 l3 l4 D M = some R) : sm_WJ smT smCl smSa shM f68 0 0 [.ref 1, .int l1, .int l2, .int l3, .int l4] [] D M R := by
  have e : jR_isCode l1 l2 l3 l4 D M = (sm_run shM smSa sm_nocal c68 true (fun a D M => some (a, D, M)) (lf68_0 D) 35 (c68.drop 0) [.ref 1, .int l1, .int l2, .int l3, .int l4] [] D M : Option (sm_S)) := rfl
  exact sm_blk (ρ := sm_S) (gd := (fun v => v = R)) (kx := 68) (i := 0) smVM rfl (by decide) (sm_nocal_ok smT smCl smP smSa shM 0) (fun a D M v e1 e2 => by cases e1; exact e2.symm) (ll68_0 D) rfl (e.symm.trans h) rfl
theorem m68 {l1 l2 l3 l4 : Int32} {D : sm_D} {M : sm_M} {R : sm_S} (h : jR_isCode l1 l2 l3 l4 D M = some R) : sm_MJ smT smCl smSa shM f68 0 [.ref 1, .int l1, .int l2, .int l3, .int l4] D M R :=
  sm_met (by decide) (Nat.le_of_ble_eq_true rfl) (List.all_eq_true.mp rfl) (we68  h)

-- jR_has
set_option maxRecDepth 20000 in
set_option maxHeartbeats 4000000 in
theorem w69_47 {s0 : Int32} {g0 g1 g2 g3 : Value} {D : sm_D} {M : sm_M} {R : sm_S} (h : jR_has_47 s0 D M = some R) : sm_WJ smT smCl smSa shM f69 0 47 [g0, g1, g2, g3] [.int s0] D M R := by
  have e : jR_has_47 s0 D M = (sm_run shM smSa sm_nocal c69 true (fun a D M => some (a, D, M)) sm_noleaf 33 (c69.drop 27) [g0, g1, g2, g3] [.int s0] D M : Option (sm_S)) := rfl
  exact sm_blk (ρ := sm_S) (gd := (fun v => v = R)) (kx := 69) (i := 27) smVM rfl (by decide) (sm_nocal_ok smT smCl smP smSa shM 0) (fun a D M v e1 e2 => by cases e1; exact e2.symm) (sm_noleaf_ok) rfl (e.symm.trans h) rfl
noncomputable def lf69_42 (D : sm_D) : Nat → List Value → List Value → sm_D → sm_M → Option (sm_S) := fun pc ls st D' M =>
  if pc = 47 then (match ls, st with
    | [gl0, gl1, gl2, gl3], [.int bs0] => (jR_has_47 bs0 D' M)
    | _, _ => none)
  else none
theorem ll69_42 (D : sm_D) {R : sm_S} : ∀ (pc : Nat) (ls st : List Value) (D' : sm_D) (M : sm_M) (v : sm_S), (lf69_42 D) pc ls st D' M = some v → (fun v => v = R) v → sm_WJ smT smCl smSa shM f69 0 pc ls st D' M R := by
  intro pc ls st D' M v h hv
  unfold lf69_42 at h
  split at h
  · rename_i hp0
    subst hp0
    split at h
    · skip
      have hv : v = R := hv
      subst hv
      exact w69_47  h
    · cases h
  · skip
    cases h
set_option maxRecDepth 20000 in
set_option maxHeartbeats 4000000 in
theorem w69_42 {g0 g1 g2 g3 : Value} {D : sm_D} {M : sm_M} {R : sm_S} (h : jR_has_42 D M = some R) : sm_WJ smT smCl smSa shM f69 0 42 [g0, g1, g2, g3] [] D M R := by
  have e : jR_has_42 D M = (sm_run shM smSa sm_nocal c69 true (fun a D M => some (a, D, M)) (lf69_42 D) 33 (c69.drop 24) [g0, g1, g2, g3] [] D M : Option (sm_S)) := rfl
  exact sm_blk (ρ := sm_S) (gd := (fun v => v = R)) (kx := 69) (i := 24) smVM rfl (by decide) (sm_nocal_ok smT smCl smP smSa shM 0) (fun a D M v e1 e2 => by cases e1; exact e2.symm) (ll69_42 D) rfl (e.symm.trans h) rfl
noncomputable def lf69_46 (D : sm_D) : Nat → List Value → List Value → sm_D → sm_M → Option (sm_S) := fun pc ls st D' M =>
  if pc = 47 then (match ls, st with
    | [gl0, gl1, gl2, gl3], [.int bs0] => (jR_has_47 bs0 D' M)
    | _, _ => none)
  else none
theorem ll69_46 (D : sm_D) {R : sm_S} : ∀ (pc : Nat) (ls st : List Value) (D' : sm_D) (M : sm_M) (v : sm_S), (lf69_46 D) pc ls st D' M = some v → (fun v => v = R) v → sm_WJ smT smCl smSa shM f69 0 pc ls st D' M R := by
  intro pc ls st D' M v h hv
  unfold lf69_46 at h
  split at h
  · rename_i hp0
    subst hp0
    split at h
    · skip
      have hv : v = R := hv
      subst hv
      exact w69_47  h
    · cases h
  · skip
    cases h
set_option maxRecDepth 20000 in
set_option maxHeartbeats 4000000 in
theorem w69_46 {g0 g1 g2 g3 : Value} {D : sm_D} {M : sm_M} {R : sm_S} (h : jR_has_46 D M = some R) : sm_WJ smT smCl smSa shM f69 0 46 [g0, g1, g2, g3] [] D M R := by
  have e : jR_has_46 D M = (sm_run shM smSa sm_nocal c69 true (fun a D M => some (a, D, M)) (lf69_46 D) 33 (c69.drop 26) [g0, g1, g2, g3] [] D M : Option (sm_S)) := rfl
  exact sm_blk (ρ := sm_S) (gd := (fun v => v = R)) (kx := 69) (i := 26) smVM rfl (by decide) (sm_nocal_ok smT smCl smP smSa shM 0) (fun a D M v e1 e2 => by cases e1; exact e2.symm) (ll69_46 D) rfl (e.symm.trans h) rfl
noncomputable def lf69_28 (D : sm_D) : Nat → List Value → List Value → sm_D → sm_M → Option (sm_S) := fun pc ls st D' M =>
  if pc = 42 then (match ls, st with
    | [gl0, gl1, gl2, gl3], [] => (jR_has_42 D' M)
    | _, _ => none)
  else if pc = 46 then (match ls, st with
    | [gl0, gl1, gl2, gl3], [] => (jR_has_46 D' M)
    | _, _ => none)
  else none
theorem ll69_28 (D : sm_D) {R : sm_S} : ∀ (pc : Nat) (ls st : List Value) (D' : sm_D) (M : sm_M) (v : sm_S), (lf69_28 D) pc ls st D' M = some v → (fun v => v = R) v → sm_WJ smT smCl smSa shM f69 0 pc ls st D' M R := by
  intro pc ls st D' M v h hv
  unfold lf69_28 at h
  split at h
  · rename_i hp0
    subst hp0
    split at h
    · skip
      have hv : v = R := hv
      subst hv
      exact w69_42  h
    · cases h
  · skip
    split at h
    · rename_i hp0
      subst hp0
      split at h
      · skip
        have hv : v = R := hv
        subst hv
        exact w69_46  h
      · cases h
    · skip
      cases h
set_option maxRecDepth 20000 in
set_option maxHeartbeats 4000000 in
theorem w69_28 {l3 : Int32} {g1 g2 : Value} {D : sm_D} {M : sm_M} {R : sm_S} (h : jR_has_28 l3 D M = some R) : sm_WJ smT smCl smSa shM f69 0 28 [.ref 1, g1, g2, .int l3] [] D M R := by
  have e : jR_has_28 l3 D M = (sm_run shM smSa sm_nocal c69 true (fun a D M => some (a, D, M)) (lf69_28 D) 33 (c69.drop 16) [.ref 1, g1, g2, .int l3] [] D M : Option (sm_S)) := rfl
  exact sm_blk (ρ := sm_S) (gd := (fun v => v = R)) (kx := 69) (i := 16) smVM rfl (by decide) (sm_nocal_ok smT smCl smP smSa shM 0) (fun a D M v e1 e2 => by cases e1; exact e2.symm) (ll69_28 D) rfl (e.symm.trans h) rfl
noncomputable def lf69_14 (D : sm_D) : Nat → List Value → List Value → sm_D → sm_M → Option (sm_S) := fun pc ls st D' M =>
  if pc = 28 then (match ls, st with
    | [.ref 1, gl1, gl2, .int bl3], [] => (jR_has_28 bl3 D' M)
    | _, _ => none)
  else if pc = 46 then (match ls, st with
    | [gl0, gl1, gl2, gl3], [] => (jR_has_46 D' M)
    | _, _ => none)
  else none
theorem ll69_14 (D : sm_D) {R : sm_S} : ∀ (pc : Nat) (ls st : List Value) (D' : sm_D) (M : sm_M) (v : sm_S), (lf69_14 D) pc ls st D' M = some v → (fun v => v = R) v → sm_WJ smT smCl smSa shM f69 0 pc ls st D' M R := by
  intro pc ls st D' M v h hv
  unfold lf69_14 at h
  split at h
  · rename_i hp0
    subst hp0
    split at h
    · skip
      have hv : v = R := hv
      subst hv
      exact w69_28  h
    · cases h
  · skip
    split at h
    · rename_i hp0
      subst hp0
      split at h
      · skip
        have hv : v = R := hv
        subst hv
        exact w69_46  h
      · cases h
    · skip
      cases h
set_option maxRecDepth 20000 in
set_option maxHeartbeats 4000000 in
theorem w69_14 {l2 l3 : Int32} {g1 : Value} {D : sm_D} {M : sm_M} {R : sm_S} (h : jR_has_14 l2 l3 D M = some R) : sm_WJ smT smCl smSa shM f69 0 14 [.ref 1, g1, .int l2, .int l3] [] D M R := by
  have e : jR_has_14 l2 l3 D M = (sm_run shM smSa sm_nocal c69 true (fun a D M => some (a, D, M)) (lf69_14 D) 33 (c69.drop 8) [.ref 1, g1, .int l2, .int l3] [] D M : Option (sm_S)) := rfl
  exact sm_blk (ρ := sm_S) (gd := (fun v => v = R)) (kx := 69) (i := 8) smVM rfl (by decide) (sm_nocal_ok smT smCl smP smSa shM 0) (fun a D M v e1 e2 => by cases e1; exact e2.symm) (ll69_14 D) rfl (e.symm.trans h) rfl
noncomputable def lf69_0 (D : sm_D) : Nat → List Value → List Value → sm_D → sm_M → Option (sm_S) := fun pc ls st D' M =>
  if pc = 14 then (match ls, st with
    | [.ref 1, gl1, .int bl2, .int bl3], [] => (jR_has_14 bl2 bl3 D' M)
    | _, _ => none)
  else if pc = 46 then (match ls, st with
    | [gl0, gl1, gl2, gl3], [] => (jR_has_46 D' M)
    | _, _ => none)
  else none
theorem ll69_0 (D : sm_D) {R : sm_S} : ∀ (pc : Nat) (ls st : List Value) (D' : sm_D) (M : sm_M) (v : sm_S), (lf69_0 D) pc ls st D' M = some v → (fun v => v = R) v → sm_WJ smT smCl smSa shM f69 0 pc ls st D' M R := by
  intro pc ls st D' M v h hv
  unfold lf69_0 at h
  split at h
  · rename_i hp0
    subst hp0
    split at h
    · skip
      have hv : v = R := hv
      subst hv
      exact w69_14  h
    · cases h
  · skip
    split at h
    · rename_i hp0
      subst hp0
      split at h
      · skip
        have hv : v = R := hv
        subst hv
        exact w69_46  h
      · cases h
    · skip
      cases h
set_option maxRecDepth 20000 in
set_option maxHeartbeats 4000000 in
theorem we69 {l1 l2 l3 : Int32} {D : sm_D} {M : sm_M} {R : sm_S} (h : jR_has l1 l2 l3 D M = some R) : sm_WJ smT smCl smSa shM f69 0 0 [.ref 1, .int l1, .int l2, .int l3] [] D M R := by
  have e : jR_has l1 l2 l3 D M = (sm_run shM smSa sm_nocal c69 true (fun a D M => some (a, D, M)) (lf69_0 D) 33 (c69.drop 0) [.ref 1, .int l1, .int l2, .int l3] [] D M : Option (sm_S)) := rfl
  exact sm_blk (ρ := sm_S) (gd := (fun v => v = R)) (kx := 69) (i := 0) smVM rfl (by decide) (sm_nocal_ok smT smCl smP smSa shM 0) (fun a D M v e1 e2 => by cases e1; exact e2.symm) (ll69_0 D) rfl (e.symm.trans h) rfl
theorem m69 {l1 l2 l3 : Int32} {D : sm_D} {M : sm_M} {R : sm_S} (h : jR_has l1 l2 l3 D M = some R) : sm_MJ smT smCl smSa shM f69 0 [.ref 1, .int l1, .int l2, .int l3] D M R :=
  sm_met (by decide) (Nat.le_of_ble_eq_true rfl) (List.all_eq_true.mp rfl) (we69  h)

-- jR_hasBlock
noncomputable def cal70  : sm_Cal := fun x as D M =>
  if x = 69 then (match as with
    | [.ref 1, .int a1, .int a2, .int a3] => (jR_has a1 a2 a3 D M)
    | _ => none)
  else none
theorem ck70  : sm_CalOk smT smCl smP smSa shM 1 cal70 := by
  intro x g as D M R hx h
  unfold cal70 at h
  split at h
  · rename_i hx'
    subst hx'
    cases (show smP[69]? = some f69 from rfl).symm.trans hx
    split at h
    · skip
      exact Or.inl ⟨0, by omega, m69   h⟩
    · cases h
  · skip
    cases h
set_option maxRecDepth 20000 in
set_option maxHeartbeats 4000000 in
theorem w70_48 {s0 : Int32} {g0 g1 : Value} {D : sm_D} {M : sm_M} {R : sm_S} (h : jR_hasBlock_48 s0 D M = some R) : sm_WJ smT smCl smSa shM f70 1 48 [g0, g1] [.int s0] D M R := by
  have e : jR_hasBlock_48 s0 D M = (sm_run shM smSa cal70 c70 true (fun a D M => some (a, D, M)) sm_noleaf 38 (c70.drop 32) [g0, g1] [.int s0] D M : Option (sm_S)) := rfl
  exact sm_blk (ρ := sm_S) (gd := (fun v => v = R)) (kx := 70) (i := 32) smVM rfl (by decide) ck70 (fun a D M v e1 e2 => by cases e1; exact e2.symm) (sm_noleaf_ok) rfl (e.symm.trans h) rfl
noncomputable def lf70_47 (D : sm_D) : Nat → List Value → List Value → sm_D → sm_M → Option (sm_S) := fun pc ls st D' M =>
  if pc = 48 then (match ls, st with
    | [gl0, gl1], [.int bs0] => (jR_hasBlock_48 bs0 D' M)
    | _, _ => none)
  else none
theorem ll70_47 (D : sm_D) {R : sm_S} : ∀ (pc : Nat) (ls st : List Value) (D' : sm_D) (M : sm_M) (v : sm_S), (lf70_47 D) pc ls st D' M = some v → (fun v => v = R) v → sm_WJ smT smCl smSa shM f70 1 pc ls st D' M R := by
  intro pc ls st D' M v h hv
  unfold lf70_47 at h
  split at h
  · rename_i hp0
    subst hp0
    split at h
    · skip
      have hv : v = R := hv
      subst hv
      exact w70_48  h
    · cases h
  · skip
    cases h
set_option maxRecDepth 20000 in
set_option maxHeartbeats 4000000 in
theorem w70_47 {g0 g1 : Value} {D : sm_D} {M : sm_M} {R : sm_S} (h : jR_hasBlock_47 D M = some R) : sm_WJ smT smCl smSa shM f70 1 47 [g0, g1] [] D M R := by
  have e : jR_hasBlock_47 D M = (sm_run shM smSa cal70 c70 true (fun a D M => some (a, D, M)) (lf70_47 D) 38 (c70.drop 31) [g0, g1] [] D M : Option (sm_S)) := rfl
  exact sm_blk (ρ := sm_S) (gd := (fun v => v = R)) (kx := 70) (i := 31) smVM rfl (by decide) ck70 (fun a D M v e1 e2 => by cases e1; exact e2.symm) (ll70_47 D) rfl (e.symm.trans h) rfl
noncomputable def lf70_0 (D : sm_D) : Nat → List Value → List Value → sm_D → sm_M → Option (sm_S) := fun pc ls st D' M =>
  if pc = 47 then (match ls, st with
    | [gl0, gl1], [] => (jR_hasBlock_47 D' M)
    | _, _ => none)
  else if pc = 48 then (match ls, st with
    | [gl0, gl1], [.int bs0] => (jR_hasBlock_48 bs0 D' M)
    | _, _ => none)
  else none
theorem ll70_0 (D : sm_D) {R : sm_S} : ∀ (pc : Nat) (ls st : List Value) (D' : sm_D) (M : sm_M) (v : sm_S), (lf70_0 D) pc ls st D' M = some v → (fun v => v = R) v → sm_WJ smT smCl smSa shM f70 1 pc ls st D' M R := by
  intro pc ls st D' M v h hv
  unfold lf70_0 at h
  split at h
  · rename_i hp0
    subst hp0
    split at h
    · skip
      have hv : v = R := hv
      subst hv
      exact w70_47  h
    · cases h
  · skip
    split at h
    · rename_i hp0
      subst hp0
      split at h
      · skip
        have hv : v = R := hv
        subst hv
        exact w70_48  h
      · cases h
    · skip
      cases h
set_option maxRecDepth 20000 in
set_option maxHeartbeats 4000000 in
theorem we70 {l1 : Int32} {D : sm_D} {M : sm_M} {R : sm_S} (h : jR_hasBlock l1 D M = some R) : sm_WJ smT smCl smSa shM f70 1 0 [.ref 1, .int l1] [] D M R := by
  have e : jR_hasBlock l1 D M = (sm_run shM smSa cal70 c70 true (fun a D M => some (a, D, M)) (lf70_0 D) 38 (c70.drop 0) [.ref 1, .int l1] [] D M : Option (sm_S)) := rfl
  exact sm_blk (ρ := sm_S) (gd := (fun v => v = R)) (kx := 70) (i := 0) smVM rfl (by decide) ck70 (fun a D M v e1 e2 => by cases e1; exact e2.symm) (ll70_0 D) rfl (e.symm.trans h) rfl
theorem m70 {l1 : Int32} {D : sm_D} {M : sm_M} {R : sm_S} (h : jR_hasBlock l1 D M = some R) : sm_MJ smT smCl smSa shM f70 1 [.ref 1, .int l1] D M R :=
  sm_met (by decide) (Nat.le_of_ble_eq_true rfl) (List.all_eq_true.mp rfl) (we70  h)

-- jR_wraps
noncomputable def cal71  : sm_Cal := fun x as D M =>
  if x = 18 then (match as with
    | [.ref 1, .int a1, .int a2, .int a3, .int a4] => (jR_find a1 a2 a3 a4 D M)
    | _ => none)
  else if x = 68 then (match as with
    | [.ref 1, .int a1, .int a2, .int a3, .int a4] => (jR_isCode a1 a2 a3 a4 D M)
    | _ => none)
  else none
theorem ck71  : sm_CalOk smT smCl smP smSa shM 2 cal71 := by
  intro x g as D M R hx h
  unfold cal71 at h
  split at h
  · rename_i hx'
    subst hx'
    cases (show smP[18]? = some f18 from rfl).symm.trans hx
    split at h
    · skip
      exact Or.inl ⟨1, by omega, m18   h⟩
    · cases h
  · skip
    split at h
    · rename_i hx'
      subst hx'
      cases (show smP[68]? = some f68 from rfl).symm.trans hx
      split at h
      · skip
        exact Or.inl ⟨0, by omega, m68   h⟩
      · cases h
    · skip
      cases h
set_option maxRecDepth 20000 in
set_option maxHeartbeats 4000000 in
theorem w71_14 {g0 g1 g2 : Value} {D : sm_D} {M : sm_M} {R : sm_S} (h : jR_wraps_14 D M = some R) : sm_WJ smT smCl smSa shM f71 2 14 [g0, g1, g2] [] D M R := by
  have e : jR_wraps_14 D M = (sm_run shM smSa cal71 c71 true (fun a D M => some (a, D, M)) sm_noleaf 61 (c71.drop 8) [g0, g1, g2] [] D M : Option (sm_S)) := rfl
  exact sm_blk (ρ := sm_S) (gd := (fun v => v = R)) (kx := 71) (i := 8) smVM rfl (by decide) ck71 (fun a D M v e1 e2 => by cases e1; exact e2.symm) (sm_noleaf_ok) rfl (e.symm.trans h) rfl
set_option maxRecDepth 20000 in
set_option maxHeartbeats 4000000 in
theorem w71_87 {s0 : Int32} {g0 g1 g2 : Value} {D : sm_D} {M : sm_M} {R : sm_S} (h : jR_wraps_87 s0 D M = some R) : sm_WJ smT smCl smSa shM f71 2 87 [g0, g1, g2] [.int s0] D M R := by
  have e : jR_wraps_87 s0 D M = (sm_run shM smSa cal71 c71 true (fun a D M => some (a, D, M)) sm_noleaf 61 (c71.drop 55) [g0, g1, g2] [.int s0] D M : Option (sm_S)) := rfl
  exact sm_blk (ρ := sm_S) (gd := (fun v => v = R)) (kx := 71) (i := 55) smVM rfl (by decide) ck71 (fun a D M v e1 e2 => by cases e1; exact e2.symm) (sm_noleaf_ok) rfl (e.symm.trans h) rfl
noncomputable def lf71_0 (D : sm_D) : Nat → List Value → List Value → sm_D → sm_M → Option (sm_S) := fun pc ls st D' M =>
  if pc = 14 then (match ls, st with
    | [gl0, gl1, gl2], [] => (jR_wraps_14 D' M)
    | _, _ => none)
  else if pc = 87 then (match ls, st with
    | [gl0, gl1, gl2], [.int bs0] => (jR_wraps_87 bs0 D' M)
    | _, _ => none)
  else none
theorem ll71_0 (D : sm_D) {R : sm_S} : ∀ (pc : Nat) (ls st : List Value) (D' : sm_D) (M : sm_M) (v : sm_S), (lf71_0 D) pc ls st D' M = some v → (fun v => v = R) v → sm_WJ smT smCl smSa shM f71 2 pc ls st D' M R := by
  intro pc ls st D' M v h hv
  unfold lf71_0 at h
  split at h
  · rename_i hp0
    subst hp0
    split at h
    · skip
      have hv : v = R := hv
      subst hv
      exact w71_14  h
    · cases h
  · skip
    split at h
    · rename_i hp0
      subst hp0
      split at h
      · skip
        have hv : v = R := hv
        subst hv
        exact w71_87  h
      · cases h
    · skip
      cases h
set_option maxRecDepth 20000 in
set_option maxHeartbeats 4000000 in
theorem we71 {l1 l2 : Int32} {D : sm_D} {M : sm_M} {R : sm_S} (h : jR_wraps l1 l2 D M = some R) : sm_WJ smT smCl smSa shM f71 2 0 [.ref 1, .int l1, .int l2] [] D M R := by
  have e : jR_wraps l1 l2 D M = (sm_run shM smSa cal71 c71 true (fun a D M => some (a, D, M)) (lf71_0 D) 61 (c71.drop 0) [.ref 1, .int l1, .int l2] [] D M : Option (sm_S)) := rfl
  exact sm_blk (ρ := sm_S) (gd := (fun v => v = R)) (kx := 71) (i := 0) smVM rfl (by decide) ck71 (fun a D M v e1 e2 => by cases e1; exact e2.symm) (ll71_0 D) rfl (e.symm.trans h) rfl
theorem m71 {l1 l2 : Int32} {D : sm_D} {M : sm_M} {R : sm_S} (h : jR_wraps l1 l2 D M = some R) : sm_MJ smT smCl smSa shM f71 2 [.ref 1, .int l1, .int l2] D M R :=
  sm_met (by decide) (Nat.le_of_ble_eq_true rfl) (List.all_eq_true.mp rfl) (we71  h)

-- jR_opens
noncomputable def cal72  : sm_Cal := fun x as D M =>
  if x = 18 then (match as with
    | [.ref 1, .int a1, .int a2, .int a3, .int a4] => (jR_find a1 a2 a3 a4 D M)
    | _ => none)
  else none
theorem ck72  : sm_CalOk smT smCl smP smSa shM 2 cal72 := by
  intro x g as D M R hx h
  unfold cal72 at h
  split at h
  · rename_i hx'
    subst hx'
    cases (show smP[18]? = some f18 from rfl).symm.trans hx
    split at h
    · skip
      exact Or.inl ⟨1, by omega, m18   h⟩
    · cases h
  · skip
    cases h
set_option maxRecDepth 20000 in
set_option maxHeartbeats 4000000 in
theorem w72_36 {g0 g1 g2 g3 : Value} {D : sm_D} {M : sm_M} {R : sm_S} (h : jR_opens_36 D M = some R) : sm_WJ smT smCl smSa shM f72 2 36 [g0, g1, g2, g3] [] D M R := by
  have e : jR_opens_36 D M = (sm_run shM smSa cal72 c72 true (fun a D M => some (a, D, M)) sm_noleaf 78 (c72.drop 22) [g0, g1, g2, g3] [] D M : Option (sm_S)) := rfl
  exact sm_blk (ρ := sm_S) (gd := (fun v => v = R)) (kx := 72) (i := 22) smVM rfl (by decide) ck72 (fun a D M v e1 e2 => by cases e1; exact e2.symm) (sm_noleaf_ok) rfl (e.symm.trans h) rfl
set_option maxRecDepth 20000 in
set_option maxHeartbeats 4000000 in
theorem w72_93 {l1 l3 s1 s3 s4 s5 s6 : Int32} {g2 : Value} {D : sm_D} {M : sm_M} {R : sm_S} (h : jR_opens_93 l1 l3 s1 s3 s4 s5 s6 D M = some R) : sm_WJ smT smCl smSa shM f72 2 93 [.ref 1, .int l1, g2, .int l3] [.int s6, .int s5, .int s4, .int s3, .ref 1, .int s1, .ref 53] D M R := by
  have e : jR_opens_93 l1 l3 s1 s3 s4 s5 s6 D M = (sm_run shM smSa cal72 c72 true (fun a D M => some (a, D, M)) sm_noleaf 78 (c72.drop 61) [.ref 1, .int l1, g2, .int l3] [.int s6, .int s5, .int s4, .int s3, .ref 1, .int s1, .ref 53] D M : Option (sm_S)) := rfl
  exact sm_blk (ρ := sm_S) (gd := (fun v => v = R)) (kx := 72) (i := 61) smVM rfl (by decide) ck72 (fun a D M v e1 e2 => by cases e1; exact e2.symm) (sm_noleaf_ok) rfl (e.symm.trans h) rfl
noncomputable def lf72_38 (D : sm_D) : Nat → List Value → List Value → sm_D → sm_M → Option (sm_S) := fun pc ls st D' M =>
  if pc = 93 then (match ls, st with
    | [.ref 1, .int bl1, gl2, .int bl3], [.int bs6, .int bs5, .int bs4, .int bs3, .ref 1, .int bs1, .ref 53] => (jR_opens_93 bl1 bl3 bs1 bs3 bs4 bs5 bs6 D' M)
    | _, _ => none)
  else none
theorem ll72_38 (D : sm_D) {R : sm_S} : ∀ (pc : Nat) (ls st : List Value) (D' : sm_D) (M : sm_M) (v : sm_S), (lf72_38 D) pc ls st D' M = some v → (fun v => v = R) v → sm_WJ smT smCl smSa shM f72 2 pc ls st D' M R := by
  intro pc ls st D' M v h hv
  unfold lf72_38 at h
  split at h
  · rename_i hp0
    subst hp0
    split at h
    · skip
      have hv : v = R := hv
      subst hv
      exact w72_93  h
    · cases h
  · skip
    cases h
set_option maxRecDepth 20000 in
set_option maxHeartbeats 4000000 in
theorem w72_38 {l1 l2 : Int32} {g3 : Value} {D : sm_D} {M : sm_M} {R : sm_S} (h : jR_opens_38 l1 l2 D M = some R) : sm_WJ smT smCl smSa shM f72 2 38 [.ref 1, .int l1, .int l2, g3] [] D M R := by
  have e : jR_opens_38 l1 l2 D M = (sm_run shM smSa cal72 c72 true (fun a D M => some (a, D, M)) (lf72_38 D) 78 (c72.drop 24) [.ref 1, .int l1, .int l2, g3] [] D M : Option (sm_S)) := rfl
  exact sm_blk (ρ := sm_S) (gd := (fun v => v = R)) (kx := 72) (i := 24) smVM rfl (by decide) ck72 (fun a D M v e1 e2 => by cases e1; exact e2.symm) (ll72_38 D) rfl (e.symm.trans h) rfl
noncomputable def lf72_0 (D : sm_D) : Nat → List Value → List Value → sm_D → sm_M → Option (sm_S) := fun pc ls st D' M =>
  if pc = 36 then (match ls, st with
    | [gl0, gl1, gl2, gl3], [] => (jR_opens_36 D' M)
    | _, _ => none)
  else if pc = 38 then (match ls, st with
    | [.ref 1, .int bl1, .int bl2, gl3], [] => (jR_opens_38 bl1 bl2 D' M)
    | _, _ => none)
  else none
theorem ll72_0 (D : sm_D) {R : sm_S} : ∀ (pc : Nat) (ls st : List Value) (D' : sm_D) (M : sm_M) (v : sm_S), (lf72_0 D) pc ls st D' M = some v → (fun v => v = R) v → sm_WJ smT smCl smSa shM f72 2 pc ls st D' M R := by
  intro pc ls st D' M v h hv
  unfold lf72_0 at h
  split at h
  · rename_i hp0
    subst hp0
    split at h
    · skip
      have hv : v = R := hv
      subst hv
      exact w72_36  h
    · cases h
  · skip
    split at h
    · rename_i hp0
      subst hp0
      split at h
      · skip
        have hv : v = R := hv
        subst hv
        exact w72_38  h
      · cases h
    · skip
      cases h
set_option maxRecDepth 20000 in
set_option maxHeartbeats 4000000 in
theorem we72 {l1 : Int32} {D : sm_D} {M : sm_M} {R : sm_S} (h : jR_opens l1 D M = some R) : sm_WJ smT smCl smSa shM f72 2 0 [.ref 1, .int l1, .retAddr 0, .retAddr 0] [] D M R := by
  have e : jR_opens l1 D M = (sm_run shM smSa cal72 c72 true (fun a D M => some (a, D, M)) (lf72_0 D) 78 (c72.drop 0) [.ref 1, .int l1, .retAddr 0, .retAddr 0] [] D M : Option (sm_S)) := rfl
  exact sm_blk (ρ := sm_S) (gd := (fun v => v = R)) (kx := 72) (i := 0) smVM rfl (by decide) ck72 (fun a D M v e1 e2 => by cases e1; exact e2.symm) (ll72_0 D) rfl (e.symm.trans h) rfl
theorem m72 {l1 : Int32} {D : sm_D} {M : sm_M} {R : sm_S} (h : jR_opens l1 D M = some R) : sm_MJ smT smCl smSa shM f72 2 [.ref 1, .int l1] D M R :=
  sm_met (by decide) (Nat.le_of_ble_eq_true rfl) (List.all_eq_true.mp rfl) (we72  h)

-- jR_isRight
noncomputable def cal73  : sm_Cal := fun x as D M =>
  if x = 18 then (match as with
    | [.ref 1, .int a1, .int a2, .int a3, .int a4] => (jR_find a1 a2 a3 a4 D M)
    | _ => none)
  else if x = 71 then (match as with
    | [.ref 1, .int a1, .int a2] => (jR_wraps a1 a2 D M)
    | _ => none)
  else if x = 72 then (match as with
    | [.ref 1, .int a1] => (jR_opens a1 D M)
    | _ => none)
  else if x = 70 then (match as with
    | [.ref 1, .int a1] => (jR_hasBlock a1 D M)
    | _ => none)
  else if x = 69 then (match as with
    | [.ref 1, .int a1, .int a2, .int a3] => (jR_has a1 a2 a3 D M)
    | _ => none)
  else none
theorem ck73  : sm_CalOk smT smCl smP smSa shM 3 cal73 := by
  intro x g as D M R hx h
  unfold cal73 at h
  split at h
  · rename_i hx'
    subst hx'
    cases (show smP[18]? = some f18 from rfl).symm.trans hx
    split at h
    · skip
      exact Or.inl ⟨1, by omega, m18   h⟩
    · cases h
  · skip
    split at h
    · rename_i hx'
      subst hx'
      cases (show smP[71]? = some f71 from rfl).symm.trans hx
      split at h
      · skip
        exact Or.inl ⟨2, by omega, m71   h⟩
      · cases h
    · skip
      split at h
      · rename_i hx'
        subst hx'
        cases (show smP[72]? = some f72 from rfl).symm.trans hx
        split at h
        · skip
          exact Or.inl ⟨2, by omega, m72   h⟩
        · cases h
      · skip
        split at h
        · rename_i hx'
          subst hx'
          cases (show smP[70]? = some f70 from rfl).symm.trans hx
          split at h
          · skip
            exact Or.inl ⟨1, by omega, m70   h⟩
          · cases h
        · skip
          split at h
          · rename_i hx'
            subst hx'
            cases (show smP[69]? = some f69 from rfl).symm.trans hx
            split at h
            · skip
              exact Or.inl ⟨0, by omega, m69   h⟩
            · cases h
          · skip
            cases h
set_option maxRecDepth 20000 in
set_option maxHeartbeats 4000000 in
theorem w73_120 {g0 g1 g2 g3 g4 : Value} {D : sm_D} {M : sm_M} {R : sm_S} (h : jR_isRight_120 D M = some R) : sm_WJ smT smCl smSa shM f73 3 120 [g0, g1, g2, g3, g4] [] D M R := by
  have e : jR_isRight_120 D M = (sm_run shM smSa cal73 c73 true (fun a D M => some (a, D, M)) sm_noleaf 246 (c73.drop 37) [g0, g1, g2, g3, g4] [] D M : Option (sm_S)) := rfl
  exact sm_blk (ρ := sm_S) (gd := (fun v => v = R)) (kx := 73) (i := 37) smVM rfl (by decide) ck73 (fun a D M v e1 e2 => by cases e1; exact e2.symm) (sm_noleaf_ok) rfl (e.symm.trans h) rfl
noncomputable def lf73_101 (D : sm_D) : Nat → List Value → List Value → sm_D → sm_M → Option (sm_S) := fun pc ls st D' M =>
  if pc = 120 then (match ls, st with
    | [gl0, gl1, gl2, gl3, gl4], [] => (jR_isRight_120 D' M)
    | _, _ => none)
  else none
theorem ll73_101 (D : sm_D) {R : sm_S} : ∀ (pc : Nat) (ls st : List Value) (D' : sm_D) (M : sm_M) (v : sm_S), (lf73_101 D) pc ls st D' M = some v → (fun v => v = R) v → sm_WJ smT smCl smSa shM f73 3 pc ls st D' M R := by
  intro pc ls st D' M v h hv
  unfold lf73_101 at h
  split at h
  · rename_i hp0
    subst hp0
    split at h
    · skip
      have hv : v = R := hv
      subst hv
      exact w73_120  h
    · cases h
  · skip
    cases h
set_option maxRecDepth 20000 in
set_option maxHeartbeats 4000000 in
theorem w73_101 {l2 l3 l4 : Int32} {g1 : Value} {D : sm_D} {M : sm_M} {R : sm_S} (h : jR_isRight_101 l2 l3 l4 D M = some R) : sm_WJ smT smCl smSa shM f73 3 101 [.ref 1, g1, .int l2, .int l3, .int l4] [] D M R := by
  have e : jR_isRight_101 l2 l3 l4 D M = (sm_run shM smSa cal73 c73 true (fun a D M => some (a, D, M)) (lf73_101 D) 246 (c73.drop 27) [.ref 1, g1, .int l2, .int l3, .int l4] [] D M : Option (sm_S)) := rfl
  exact sm_blk (ρ := sm_S) (gd := (fun v => v = R)) (kx := 73) (i := 27) smVM rfl (by decide) ck73 (fun a D M v e1 e2 => by cases e1; exact e2.symm) (ll73_101 D) rfl (e.symm.trans h) rfl
set_option maxRecDepth 20000 in
set_option maxHeartbeats 4000000 in
theorem w73_150 {g0 g1 g2 g3 g4 : Value} {D : sm_D} {M : sm_M} {R : sm_S} (h : jR_isRight_150 D M = some R) : sm_WJ smT smCl smSa shM f73 3 150 [g0, g1, g2, g3, g4] [] D M R := by
  have e : jR_isRight_150 D M = (sm_run shM smSa cal73 c73 true (fun a D M => some (a, D, M)) sm_noleaf 246 (c73.drop 56) [g0, g1, g2, g3, g4] [] D M : Option (sm_S)) := rfl
  exact sm_blk (ρ := sm_S) (gd := (fun v => v = R)) (kx := 73) (i := 56) smVM rfl (by decide) ck73 (fun a D M v e1 e2 => by cases e1; exact e2.symm) (sm_noleaf_ok) rfl (e.symm.trans h) rfl
set_option maxRecDepth 20000 in
set_option maxHeartbeats 4000000 in
theorem w73_203 {g0 g1 g2 g3 g4 : Value} {D : sm_D} {M : sm_M} {R : sm_S} (h : jR_isRight_203 D M = some R) : sm_WJ smT smCl smSa shM f73 3 203 [g0, g1, g2, g3, g4] [] D M R := by
  have e : jR_isRight_203 D M = (sm_run shM smSa cal73 c73 true (fun a D M => some (a, D, M)) sm_noleaf 246 (c73.drop 90) [g0, g1, g2, g3, g4] [] D M : Option (sm_S)) := rfl
  exact sm_blk (ρ := sm_S) (gd := (fun v => v = R)) (kx := 73) (i := 90) smVM rfl (by decide) ck73 (fun a D M v e1 e2 => by cases e1; exact e2.symm) (sm_noleaf_ok) rfl (e.symm.trans h) rfl
set_option maxRecDepth 20000 in
set_option maxHeartbeats 4000000 in
theorem w73_240 {s1 s2 : Int32} {g0 g1 g2 g3 g4 : Value} {D : sm_D} {M : sm_M} {R : sm_S} (h : jR_isRight_240 s1 s2 D M = some R) : sm_WJ smT smCl smSa shM f73 3 240 [g0, g1, g2, g3, g4] [.int s2, .int s1, .ref 53] D M R := by
  have e : jR_isRight_240 s1 s2 D M = (sm_run shM smSa cal73 c73 true (fun a D M => some (a, D, M)) sm_noleaf 246 (c73.drop 112) [g0, g1, g2, g3, g4] [.int s2, .int s1, .ref 53] D M : Option (sm_S)) := rfl
  exact sm_blk (ρ := sm_S) (gd := (fun v => v = R)) (kx := 73) (i := 112) smVM rfl (by decide) ck73 (fun a D M v e1 e2 => by cases e1; exact e2.symm) (sm_noleaf_ok) rfl (e.symm.trans h) rfl
set_option maxRecDepth 20000 in
set_option maxHeartbeats 4000000 in
theorem w73_355 {s0 : Int32} {g0 g1 g2 g3 g4 : Value} {D : sm_D} {M : sm_M} {R : sm_S} (h : jR_isRight_355 s0 D M = some R) : sm_WJ smT smCl smSa shM f73 3 355 [g0, g1, g2, g3, g4] [.int s0] D M R := by
  have e : jR_isRight_355 s0 D M = (sm_run shM smSa cal73 c73 true (fun a D M => some (a, D, M)) sm_noleaf 246 (c73.drop 189) [g0, g1, g2, g3, g4] [.int s0] D M : Option (sm_S)) := rfl
  exact sm_blk (ρ := sm_S) (gd := (fun v => v = R)) (kx := 73) (i := 189) smVM rfl (by decide) ck73 (fun a D M v e1 e2 => by cases e1; exact e2.symm) (sm_noleaf_ok) rfl (e.symm.trans h) rfl
noncomputable def lf73_354 (D : sm_D) : Nat → List Value → List Value → sm_D → sm_M → Option (sm_S) := fun pc ls st D' M =>
  if pc = 355 then (match ls, st with
    | [gl0, gl1, gl2, gl3, gl4], [.int bs0] => (jR_isRight_355 bs0 D' M)
    | _, _ => none)
  else none
theorem ll73_354 (D : sm_D) {R : sm_S} : ∀ (pc : Nat) (ls st : List Value) (D' : sm_D) (M : sm_M) (v : sm_S), (lf73_354 D) pc ls st D' M = some v → (fun v => v = R) v → sm_WJ smT smCl smSa shM f73 3 pc ls st D' M R := by
  intro pc ls st D' M v h hv
  unfold lf73_354 at h
  split at h
  · rename_i hp0
    subst hp0
    split at h
    · skip
      have hv : v = R := hv
      subst hv
      exact w73_355  h
    · cases h
  · skip
    cases h
set_option maxRecDepth 20000 in
set_option maxHeartbeats 4000000 in
theorem w73_354 {g0 g1 g2 g3 g4 : Value} {D : sm_D} {M : sm_M} {R : sm_S} (h : jR_isRight_354 D M = some R) : sm_WJ smT smCl smSa shM f73 3 354 [g0, g1, g2, g3, g4] [] D M R := by
  have e : jR_isRight_354 D M = (sm_run shM smSa cal73 c73 true (fun a D M => some (a, D, M)) (lf73_354 D) 246 (c73.drop 188) [g0, g1, g2, g3, g4] [] D M : Option (sm_S)) := rfl
  exact sm_blk (ρ := sm_S) (gd := (fun v => v = R)) (kx := 73) (i := 188) smVM rfl (by decide) ck73 (fun a D M v e1 e2 => by cases e1; exact e2.symm) (ll73_354 D) rfl (e.symm.trans h) rfl
set_option maxRecDepth 20000 in
set_option maxHeartbeats 4000000 in
theorem w73_425 {s0 : Int32} {g0 g1 g2 g3 g4 : Value} {D : sm_D} {M : sm_M} {R : sm_S} (h : jR_isRight_425 s0 D M = some R) : sm_WJ smT smCl smSa shM f73 3 425 [g0, g1, g2, g3, g4] [.int s0] D M R := by
  have e : jR_isRight_425 s0 D M = (sm_run shM smSa cal73 c73 true (fun a D M => some (a, D, M)) sm_noleaf 246 (c73.drop 231) [g0, g1, g2, g3, g4] [.int s0] D M : Option (sm_S)) := rfl
  exact sm_blk (ρ := sm_S) (gd := (fun v => v = R)) (kx := 73) (i := 231) smVM rfl (by decide) ck73 (fun a D M v e1 e2 => by cases e1; exact e2.symm) (sm_noleaf_ok) rfl (e.symm.trans h) rfl
noncomputable def lf73_424 (D : sm_D) : Nat → List Value → List Value → sm_D → sm_M → Option (sm_S) := fun pc ls st D' M =>
  if pc = 425 then (match ls, st with
    | [gl0, gl1, gl2, gl3, gl4], [.int bs0] => (jR_isRight_425 bs0 D' M)
    | _, _ => none)
  else none
theorem ll73_424 (D : sm_D) {R : sm_S} : ∀ (pc : Nat) (ls st : List Value) (D' : sm_D) (M : sm_M) (v : sm_S), (lf73_424 D) pc ls st D' M = some v → (fun v => v = R) v → sm_WJ smT smCl smSa shM f73 3 pc ls st D' M R := by
  intro pc ls st D' M v h hv
  unfold lf73_424 at h
  split at h
  · rename_i hp0
    subst hp0
    split at h
    · skip
      have hv : v = R := hv
      subst hv
      exact w73_425  h
    · cases h
  · skip
    cases h
set_option maxRecDepth 20000 in
set_option maxHeartbeats 4000000 in
theorem w73_424 {g0 g1 g2 g3 g4 : Value} {D : sm_D} {M : sm_M} {R : sm_S} (h : jR_isRight_424 D M = some R) : sm_WJ smT smCl smSa shM f73 3 424 [g0, g1, g2, g3, g4] [] D M R := by
  have e : jR_isRight_424 D M = (sm_run shM smSa cal73 c73 true (fun a D M => some (a, D, M)) (lf73_424 D) 246 (c73.drop 230) [g0, g1, g2, g3, g4] [] D M : Option (sm_S)) := rfl
  exact sm_blk (ρ := sm_S) (gd := (fun v => v = R)) (kx := 73) (i := 230) smVM rfl (by decide) ck73 (fun a D M v e1 e2 => by cases e1; exact e2.symm) (ll73_424 D) rfl (e.symm.trans h) rfl
set_option maxRecDepth 20000 in
set_option maxHeartbeats 4000000 in
theorem w73_440 {s0 : Int32} {g0 g1 g2 g3 g4 : Value} {D : sm_D} {M : sm_M} {R : sm_S} (h : jR_isRight_440 s0 D M = some R) : sm_WJ smT smCl smSa shM f73 3 440 [g0, g1, g2, g3, g4] [.int s0] D M R := by
  have e : jR_isRight_440 s0 D M = (sm_run shM smSa cal73 c73 true (fun a D M => some (a, D, M)) sm_noleaf 246 (c73.drop 240) [g0, g1, g2, g3, g4] [.int s0] D M : Option (sm_S)) := rfl
  exact sm_blk (ρ := sm_S) (gd := (fun v => v = R)) (kx := 73) (i := 240) smVM rfl (by decide) ck73 (fun a D M v e1 e2 => by cases e1; exact e2.symm) (sm_noleaf_ok) rfl (e.symm.trans h) rfl
noncomputable def lf73_0 (D : sm_D) : Nat → List Value → List Value → sm_D → sm_M → Option (sm_S) := fun pc ls st D' M =>
  if pc = 101 then (match ls, st with
    | [.ref 1, gl1, .int bl2, .int bl3, .int bl4], [] => (jR_isRight_101 bl2 bl3 bl4 D' M)
    | _, _ => none)
  else if pc = 150 then (match ls, st with
    | [gl0, gl1, gl2, gl3, gl4], [] => (jR_isRight_150 D' M)
    | _, _ => none)
  else if pc = 203 then (match ls, st with
    | [gl0, gl1, gl2, gl3, gl4], [] => (jR_isRight_203 D' M)
    | _, _ => none)
  else if pc = 240 then (match ls, st with
    | [gl0, gl1, gl2, gl3, gl4], [.int bs2, .int bs1, .ref 53] => (jR_isRight_240 bs1 bs2 D' M)
    | _, _ => none)
  else if pc = 354 then (match ls, st with
    | [gl0, gl1, gl2, gl3, gl4], [] => (jR_isRight_354 D' M)
    | _, _ => none)
  else if pc = 355 then (match ls, st with
    | [gl0, gl1, gl2, gl3, gl4], [.int bs0] => (jR_isRight_355 bs0 D' M)
    | _, _ => none)
  else if pc = 424 then (match ls, st with
    | [gl0, gl1, gl2, gl3, gl4], [] => (jR_isRight_424 D' M)
    | _, _ => none)
  else if pc = 425 then (match ls, st with
    | [gl0, gl1, gl2, gl3, gl4], [.int bs0] => (jR_isRight_425 bs0 D' M)
    | _, _ => none)
  else if pc = 440 then (match ls, st with
    | [gl0, gl1, gl2, gl3, gl4], [.int bs0] => (jR_isRight_440 bs0 D' M)
    | _, _ => none)
  else none
theorem ll73_0 (D : sm_D) {R : sm_S} : ∀ (pc : Nat) (ls st : List Value) (D' : sm_D) (M : sm_M) (v : sm_S), (lf73_0 D) pc ls st D' M = some v → (fun v => v = R) v → sm_WJ smT smCl smSa shM f73 3 pc ls st D' M R := by
  intro pc ls st D' M v h hv
  unfold lf73_0 at h
  split at h
  · rename_i hp0
    subst hp0
    split at h
    · skip
      have hv : v = R := hv
      subst hv
      exact w73_101  h
    · cases h
  · skip
    split at h
    · rename_i hp0
      subst hp0
      split at h
      · skip
        have hv : v = R := hv
        subst hv
        exact w73_150  h
      · cases h
    · skip
      split at h
      · rename_i hp0
        subst hp0
        split at h
        · skip
          have hv : v = R := hv
          subst hv
          exact w73_203  h
        · cases h
      · skip
        split at h
        · rename_i hp0
          subst hp0
          split at h
          · skip
            have hv : v = R := hv
            subst hv
            exact w73_240  h
          · cases h
        · skip
          split at h
          · rename_i hp0
            subst hp0
            split at h
            · skip
              have hv : v = R := hv
              subst hv
              exact w73_354  h
            · cases h
          · skip
            split at h
            · rename_i hp0
              subst hp0
              split at h
              · skip
                have hv : v = R := hv
                subst hv
                exact w73_355  h
              · cases h
            · skip
              split at h
              · rename_i hp0
                subst hp0
                split at h
                · skip
                  have hv : v = R := hv
                  subst hv
                  exact w73_424  h
                · cases h
              · skip
                split at h
                · rename_i hp0
                  subst hp0
                  split at h
                  · skip
                    have hv : v = R := hv
                    subst hv
                    exact w73_425  h
                  · cases h
                · skip
                  split at h
                  · rename_i hp0
                    subst hp0
                    split at h
                    · skip
                      have hv : v = R := hv
                      subst hv
                      exact w73_440  h
                    · cases h
                  · skip
                    cases h
set_option maxRecDepth 20000 in
set_option maxHeartbeats 4000000 in
theorem we73 {l1 : Int32} {D : sm_D} {M : sm_M} {R : sm_S} (h : jR_isRight l1 D M = some R) : sm_WJ smT smCl smSa shM f73 3 0 [.ref 1, .int l1, .retAddr 0, .retAddr 0, .retAddr 0] [] D M R := by
  have e : jR_isRight l1 D M = (sm_run shM smSa cal73 c73 true (fun a D M => some (a, D, M)) (lf73_0 D) 246 (c73.drop 0) [.ref 1, .int l1, .retAddr 0, .retAddr 0, .retAddr 0] [] D M : Option (sm_S)) := rfl
  exact sm_blk (ρ := sm_S) (gd := (fun v => v = R)) (kx := 73) (i := 0) smVM rfl (by decide) ck73 (fun a D M v e1 e2 => by cases e1; exact e2.symm) (ll73_0 D) rfl (e.symm.trans h) rfl
theorem m73 {l1 : Int32} {D : sm_D} {M : sm_M} {R : sm_S} (h : jR_isRight l1 D M = some R) : sm_MJ smT smCl smSa shM f73 3 [.ref 1, .int l1] D M R :=
  sm_met (by decide) (Nat.le_of_ble_eq_true rfl) (List.all_eq_true.mp rfl) (we73  h)

-- jR_isEnd
set_option maxRecDepth 20000 in
set_option maxHeartbeats 4000000 in
theorem w74_23 {s0 : Int32} {g0 : Value} {D : sm_D} {M : sm_M} {R : sm_S} (h : jR_isEnd_23 s0 D M = some R) : sm_WJ smT smCl smSa shM f74 0 23 [g0] [.int s0] D M R := by
  have e : jR_isEnd_23 s0 D M = (sm_run shM smSa sm_nocal c74 true (fun a D M => some (a, D, M)) sm_noleaf 18 (c74.drop 12) [g0] [.int s0] D M : Option (sm_S)) := rfl
  exact sm_blk (ρ := sm_S) (gd := (fun v => v = R)) (kx := 74) (i := 12) smVM rfl (by decide) (sm_nocal_ok smT smCl smP smSa shM 0) (fun a D M v e1 e2 => by cases e1; exact e2.symm) (sm_noleaf_ok) rfl (e.symm.trans h) rfl
noncomputable def lf74_18 (D : sm_D) : Nat → List Value → List Value → sm_D → sm_M → Option (sm_S) := fun pc ls st D' M =>
  if pc = 23 then (match ls, st with
    | [gl0], [.int bs0] => (jR_isEnd_23 bs0 D' M)
    | _, _ => none)
  else none
theorem ll74_18 (D : sm_D) {R : sm_S} : ∀ (pc : Nat) (ls st : List Value) (D' : sm_D) (M : sm_M) (v : sm_S), (lf74_18 D) pc ls st D' M = some v → (fun v => v = R) v → sm_WJ smT smCl smSa shM f74 0 pc ls st D' M R := by
  intro pc ls st D' M v h hv
  unfold lf74_18 at h
  split at h
  · rename_i hp0
    subst hp0
    split at h
    · skip
      have hv : v = R := hv
      subst hv
      exact w74_23  h
    · cases h
  · skip
    cases h
set_option maxRecDepth 20000 in
set_option maxHeartbeats 4000000 in
theorem w74_18 {g0 : Value} {D : sm_D} {M : sm_M} {R : sm_S} (h : jR_isEnd_18 D M = some R) : sm_WJ smT smCl smSa shM f74 0 18 [g0] [] D M R := by
  have e : jR_isEnd_18 D M = (sm_run shM smSa sm_nocal c74 true (fun a D M => some (a, D, M)) (lf74_18 D) 18 (c74.drop 9) [g0] [] D M : Option (sm_S)) := rfl
  exact sm_blk (ρ := sm_S) (gd := (fun v => v = R)) (kx := 74) (i := 9) smVM rfl (by decide) (sm_nocal_ok smT smCl smP smSa shM 0) (fun a D M v e1 e2 => by cases e1; exact e2.symm) (ll74_18 D) rfl (e.symm.trans h) rfl
noncomputable def lf74_0 (D : sm_D) : Nat → List Value → List Value → sm_D → sm_M → Option (sm_S) := fun pc ls st D' M =>
  if pc = 18 then (match ls, st with
    | [gl0], [] => (jR_isEnd_18 D' M)
    | _, _ => none)
  else if pc = 23 then (match ls, st with
    | [gl0], [.int bs0] => (jR_isEnd_23 bs0 D' M)
    | _, _ => none)
  else none
theorem ll74_0 (D : sm_D) {R : sm_S} : ∀ (pc : Nat) (ls st : List Value) (D' : sm_D) (M : sm_M) (v : sm_S), (lf74_0 D) pc ls st D' M = some v → (fun v => v = R) v → sm_WJ smT smCl smSa shM f74 0 pc ls st D' M R := by
  intro pc ls st D' M v h hv
  unfold lf74_0 at h
  split at h
  · rename_i hp0
    subst hp0
    split at h
    · skip
      have hv : v = R := hv
      subst hv
      exact w74_18  h
    · cases h
  · skip
    split at h
    · rename_i hp0
      subst hp0
      split at h
      · skip
        have hv : v = R := hv
        subst hv
        exact w74_23  h
      · cases h
    · skip
      cases h
set_option maxRecDepth 20000 in
set_option maxHeartbeats 4000000 in
theorem we74 {l0 : Int32} {D : sm_D} {M : sm_M} {R : sm_S} (h : jR_isEnd l0 D M = some R) : sm_WJ smT smCl smSa shM f74 0 0 [.int l0] [] D M R := by
  have e : jR_isEnd l0 D M = (sm_run shM smSa sm_nocal c74 true (fun a D M => some (a, D, M)) (lf74_0 D) 18 (c74.drop 0) [.int l0] [] D M : Option (sm_S)) := rfl
  exact sm_blk (ρ := sm_S) (gd := (fun v => v = R)) (kx := 74) (i := 0) smVM rfl (by decide) (sm_nocal_ok smT smCl smP smSa shM 0) (fun a D M v e1 e2 => by cases e1; exact e2.symm) (ll74_0 D) rfl (e.symm.trans h) rfl
theorem m74 {l0 : Int32} {D : sm_D} {M : sm_M} {R : sm_S} (h : jR_isEnd l0 D M = some R) : sm_MJ smT smCl smSa shM f74 0 [.int l0] D M R :=
  sm_met (by decide) (Nat.le_of_ble_eq_true rfl) (List.all_eq_true.mp rfl) (we74  h)

-- jR_checkBlock
noncomputable def cal75  : sm_Cal := fun x as D M =>
  if x = 74 then (match as with
    | [.int a0] => (jR_isEnd a0 D M)
    | _ => none)
  else if x = 73 then (match as with
    | [.ref 1, .int a1] => (jR_isRight a1 D M)
    | _ => none)
  else none
theorem ck75  : sm_CalOk smT smCl smP smSa shM 4 cal75 := by
  intro x g as D M R hx h
  unfold cal75 at h
  split at h
  · rename_i hx'
    subst hx'
    cases (show smP[74]? = some f74 from rfl).symm.trans hx
    split at h
    · skip
      exact Or.inl ⟨0, by omega, m74   h⟩
    · cases h
  · skip
    split at h
    · rename_i hx'
      subst hx'
      cases (show smP[73]? = some f73 from rfl).symm.trans hx
      split at h
      · skip
        exact Or.inl ⟨3, by omega, m73   h⟩
      · cases h
    · skip
      cases h
def lh75_2 (D : sm_D) (R : sm_S) (s : Int32 × Int32 × sm_M) : Prop := sm_WJ smT smCl smSa shM f75 4 2 [.ref 1, .int (s.1), .int (s.2.1)] [] D (s.2.2) R
def gd75_2 (D : sm_D) (R : sm_S) (v : (Int32 × Int32 × sm_M) ⊕ sm_S) : Prop := match v with
  | .inl s => lh75_2 D R s
  | .inr r => r = R
noncomputable def lf75_34 (D : sm_D) : Nat → List Value → List Value → sm_D → sm_M → Option ((Int32 × Int32 × sm_M) ⊕ sm_S) := fun pc ls st D' M =>
  if pc = 2 then (match ls, st with
    | [.ref 1, .int bl1, .int bl2], [] => (sm_dq D' D (some (.inl (bl1, bl2, M))))
    | _, _ => none)
  else none
theorem ll75_34 (D : sm_D) {R : sm_S} : ∀ (pc : Nat) (ls st : List Value) (D' : sm_D) (M : sm_M) (v : (Int32 × Int32 × sm_M) ⊕ sm_S), (lf75_34 D) pc ls st D' M = some v → (gd75_2 D R) v → sm_WJ smT smCl smSa shM f75 4 pc ls st D' M R := by
  intro pc ls st D' M v h hv
  unfold lf75_34 at h
  split at h
  · rename_i hp0
    subst hp0
    split at h
    · skip
      replace h := sm_dq_inv h
      obtain ⟨he, h⟩ := h
      subst he
      cases h
      exact hv
    · cases h
  · skip
    cases h
set_option maxRecDepth 20000 in
set_option maxHeartbeats 4000000 in
theorem w75_34 (D : sm_D) {l1 l2 s1 s2 : Int32} {M : sm_M} {R : sm_S} {v : (Int32 × Int32 × sm_M) ⊕ sm_S} (h : jR_checkBlock_34 l1 l2 s1 s2 D M = some v) (hv : (gd75_2 D R) v) : sm_WJ smT smCl smSa shM f75 4 34 [.ref 1, .int l1, .int l2] [.int s2, .int s1, .ref 53] D M R := by
  have e : jR_checkBlock_34 l1 l2 s1 s2 D M = (sm_run shM smSa cal75 c75 false (fun a D M => some (.inr (a, D, M))) (lf75_34 D) 95 (c75.drop 23) [.ref 1, .int l1, .int l2] [.int s2, .int s1, .ref 53] D M : Option ((Int32 × Int32 × sm_M) ⊕ sm_S)) := rfl
  exact sm_blk (ρ := (Int32 × Int32 × sm_M) ⊕ sm_S) (gd := (gd75_2 D R)) (kx := 75) (i := 23) smVM rfl (by decide) ck75 (fun a D M v e1 e2 => by cases e1; exact e2.symm) (ll75_34 D) rfl (e.symm.trans h) hv
set_option maxRecDepth 20000 in
set_option maxHeartbeats 4000000 in
theorem w75_93 {l2 : Int32} {g0 g1 : Value} {D : sm_D} {M : sm_M} {R : sm_S} (h : jR_checkBlock_93 l2 D M = some R) : sm_WJ smT smCl smSa shM f75 4 93 [g0, g1, .int l2] [] D M R := by
  have e : jR_checkBlock_93 l2 D M = (sm_run shM smSa cal75 c75 false (fun a D M => some (a, D, M)) sm_noleaf 95 (c75.drop 58) [g0, g1, .int l2] [] D M : Option (sm_S)) := rfl
  exact sm_blk (ρ := sm_S) (gd := (fun v => v = R)) (kx := 75) (i := 58) smVM rfl (by decide) ck75 (fun a D M v e1 e2 => by cases e1; exact e2.symm) (sm_noleaf_ok) rfl (e.symm.trans h) rfl
def lh75_43 (D : sm_D) (R : sm_S) (s : Int32 × Int32 × sm_M) : Prop := sm_WJ smT smCl smSa shM f75 4 43 [.ref 1, .int (s.1), .int (s.2.1)] [] D (s.2.2) R
def gd75_43 (D : sm_D) (R : sm_S) (v : (Int32 × Int32 × sm_M) ⊕ sm_S) : Prop := match v with
  | .inl s => lh75_43 D R s
  | .inr r => r = R
noncomputable def lf75_78 (D : sm_D) : Nat → List Value → List Value → sm_D → sm_M → Option ((Int32 × Int32 × sm_M) ⊕ sm_S) := fun pc ls st D' M =>
  if pc = 43 then (match ls, st with
    | [.ref 1, .int bl1, .int bl2], [] => (sm_dq D' D (some (.inl (bl1, bl2, M))))
    | _, _ => none)
  else if pc = 93 then (match ls, st with
    | [gl0, gl1, .int bl2], [] => (sm_inr (jR_checkBlock_93 bl2 D' M))
    | _, _ => none)
  else none
theorem ll75_78 (D : sm_D) {R : sm_S} : ∀ (pc : Nat) (ls st : List Value) (D' : sm_D) (M : sm_M) (v : (Int32 × Int32 × sm_M) ⊕ sm_S), (lf75_78 D) pc ls st D' M = some v → (gd75_43 D R) v → sm_WJ smT smCl smSa shM f75 4 pc ls st D' M R := by
  intro pc ls st D' M v h hv
  unfold lf75_78 at h
  split at h
  · rename_i hp0
    subst hp0
    split at h
    · skip
      replace h := sm_dq_inv h
      obtain ⟨he, h⟩ := h
      subst he
      cases h
      exact hv
    · cases h
  · skip
    split at h
    · rename_i hp0
      subst hp0
      split at h
      · skip
        replace h := sm_inr_inv h
        obtain ⟨r, h, he⟩ := h
        subst he
        have hv : r = R := hv
        subst hv
        exact w75_93  h
      · cases h
    · skip
      cases h
set_option maxRecDepth 20000 in
set_option maxHeartbeats 4000000 in
theorem w75_78 (D : sm_D) {l1 l2 : Int32} {M : sm_M} {R : sm_S} {v : (Int32 × Int32 × sm_M) ⊕ sm_S} (h : jR_checkBlock_78 l1 l2 D M = some v) (hv : (gd75_43 D R) v) : sm_WJ smT smCl smSa shM f75 4 78 [.ref 1, .int l1, .int l2] [] D M R := by
  have e : jR_checkBlock_78 l1 l2 D M = (sm_run shM smSa cal75 c75 false (fun a D M => some (.inr (a, D, M))) (lf75_78 D) 95 (c75.drop 49) [.ref 1, .int l1, .int l2] [] D M : Option ((Int32 × Int32 × sm_M) ⊕ sm_S)) := rfl
  exact sm_blk (ρ := (Int32 × Int32 × sm_M) ⊕ sm_S) (gd := (gd75_43 D R)) (kx := 75) (i := 49) smVM rfl (by decide) ck75 (fun a D M v e1 e2 => by cases e1; exact e2.symm) (ll75_78 D) rfl (e.symm.trans h) hv
set_option maxRecDepth 20000 in
set_option maxHeartbeats 4000000 in
theorem w75_146 {s0 : Int32} {g0 g1 g2 : Value} {D : sm_D} {M : sm_M} {R : sm_S} (h : jR_checkBlock_146 s0 D M = some R) : sm_WJ smT smCl smSa shM f75 4 146 [g0, g1, g2] [.int s0] D M R := by
  have e : jR_checkBlock_146 s0 D M = (sm_run shM smSa cal75 c75 false (fun a D M => some (a, D, M)) sm_noleaf 95 (c75.drop 89) [g0, g1, g2] [.int s0] D M : Option (sm_S)) := rfl
  exact sm_blk (ρ := sm_S) (gd := (fun v => v = R)) (kx := 75) (i := 89) smVM rfl (by decide) ck75 (fun a D M v e1 e2 => by cases e1; exact e2.symm) (sm_noleaf_ok) rfl (e.symm.trans h) rfl
noncomputable def lf75_140 (D : sm_D) : Nat → List Value → List Value → sm_D → sm_M → Option (sm_S) := fun pc ls st D' M =>
  if pc = 146 then (match ls, st with
    | [gl0, gl1, gl2], [.int bs0] => (jR_checkBlock_146 bs0 D' M)
    | _, _ => none)
  else none
theorem ll75_140 (D : sm_D) {R : sm_S} : ∀ (pc : Nat) (ls st : List Value) (D' : sm_D) (M : sm_M) (v : sm_S), (lf75_140 D) pc ls st D' M = some v → (fun v => v = R) v → sm_WJ smT smCl smSa shM f75 4 pc ls st D' M R := by
  intro pc ls st D' M v h hv
  unfold lf75_140 at h
  split at h
  · rename_i hp0
    subst hp0
    split at h
    · skip
      have hv : v = R := hv
      subst hv
      exact w75_146  h
    · cases h
  · skip
    cases h
set_option maxRecDepth 20000 in
set_option maxHeartbeats 4000000 in
theorem w75_140 {l1 : Int32} {g2 : Value} {D : sm_D} {M : sm_M} {R : sm_S} (h : jR_checkBlock_140 l1 D M = some R) : sm_WJ smT smCl smSa shM f75 4 140 [.ref 1, .int l1, g2] [] D M R := by
  have e : jR_checkBlock_140 l1 D M = (sm_run shM smSa cal75 c75 false (fun a D M => some (a, D, M)) (lf75_140 D) 95 (c75.drop 85) [.ref 1, .int l1, g2] [] D M : Option (sm_S)) := rfl
  exact sm_blk (ρ := sm_S) (gd := (fun v => v = R)) (kx := 75) (i := 85) smVM rfl (by decide) ck75 (fun a D M v e1 e2 => by cases e1; exact e2.symm) (ll75_140 D) rfl (e.symm.trans h) rfl
noncomputable def lf75_43 (D : sm_D) : Nat → List Value → List Value → sm_D → sm_M → Option ((Int32 × Int32 × sm_M) ⊕ sm_S) := fun pc ls st D' M =>
  if pc = 78 then (match ls, st with
    | [.ref 1, .int bl1, .int bl2], [] => (sm_dq D' D (jR_checkBlock_78 bl1 bl2 D' M))
    | _, _ => none)
  else if pc = 93 then (match ls, st with
    | [gl0, gl1, .int bl2], [] => (sm_inr (jR_checkBlock_93 bl2 D' M))
    | _, _ => none)
  else if pc = 140 then (match ls, st with
    | [.ref 1, .int bl1, gl2], [] => (sm_inr (jR_checkBlock_140 bl1 D' M))
    | _, _ => none)
  else if pc = 146 then (match ls, st with
    | [gl0, gl1, gl2], [.int bs0] => (sm_inr (jR_checkBlock_146 bs0 D' M))
    | _, _ => none)
  else none
theorem ll75_43 (D : sm_D) {R : sm_S} : ∀ (pc : Nat) (ls st : List Value) (D' : sm_D) (M : sm_M) (v : (Int32 × Int32 × sm_M) ⊕ sm_S), (lf75_43 D) pc ls st D' M = some v → (gd75_43 D R) v → sm_WJ smT smCl smSa shM f75 4 pc ls st D' M R := by
  intro pc ls st D' M v h hv
  unfold lf75_43 at h
  split at h
  · rename_i hp0
    subst hp0
    split at h
    · skip
      replace h := sm_dq_inv h
      obtain ⟨he, h⟩ := h
      subst he
      exact w75_78 _ h hv
    · cases h
  · skip
    split at h
    · rename_i hp0
      subst hp0
      split at h
      · skip
        replace h := sm_inr_inv h
        obtain ⟨r, h, he⟩ := h
        subst he
        have hv : r = R := hv
        subst hv
        exact w75_93  h
      · cases h
    · skip
      split at h
      · rename_i hp0
        subst hp0
        split at h
        · skip
          replace h := sm_inr_inv h
          obtain ⟨r, h, he⟩ := h
          subst he
          have hv : r = R := hv
          subst hv
          exact w75_140  h
        · cases h
      · skip
        split at h
        · rename_i hp0
          subst hp0
          split at h
          · skip
            replace h := sm_inr_inv h
            obtain ⟨r, h, he⟩ := h
            subst he
            have hv : r = R := hv
            subst hv
            exact w75_146  h
          · cases h
        · skip
          cases h
set_option maxRecDepth 20000 in
set_option maxHeartbeats 4000000 in
theorem wc75_43 (D : sm_D) {l1 l2 : Int32} {M : sm_M} {R : sm_S} {v : (Int32 × Int32 × sm_M) ⊕ sm_S} (h : jR_checkBlock_43_c l1 l2 D M = some v) (hv : (gd75_43 D R) v) : sm_WJ smT smCl smSa shM f75 4 43 [.ref 1, .int l1, .int l2] [] D M R := by
  have e : jR_checkBlock_43_c l1 l2 D M = (sm_run shM smSa cal75 c75 false (fun a D M => some (.inr (a, D, M))) (lf75_43 D) 95 (c75.drop 28) [.ref 1, .int l1, .int l2] [] D M : Option ((Int32 × Int32 × sm_M) ⊕ sm_S)) := rfl
  exact sm_blk (ρ := (Int32 × Int32 × sm_M) ⊕ sm_S) (gd := (gd75_43 D R)) (kx := 75) (i := 28) smVM rfl (by decide) ck75 (fun a D M v e1 e2 => by cases e1; exact e2.symm) (ll75_43 D) rfl (e.symm.trans h) hv
theorem w75_43 {l1 l2 : Int32} {D : sm_D} {M : sm_M} {R : sm_S} (h : jR_checkBlock_43 l1 l2 D M = some R) : sm_WJ smT smCl smSa shM f75 4 43 [.ref 1, .int l1, .int l2] [] D M R := by
  have hh : lh75_43 D R (l1, l2, M) := by
    refine sm_lp_ind (b := jR_checkBlock_43_b D) (r := R) (lh75_43 D R) ?_ h
    intro s v hb h1 h2
    obtain ⟨z0, z1, M1⟩ := s
    have hv : gd75_43 D R v := by
      cases v with
      | inl s' => exact h1 s' rfl
      | inr r => exact h2 r rfl
    exact wc75_43 D hb hv
  exact hh
noncomputable def lf75_2 (D : sm_D) : Nat → List Value → List Value → sm_D → sm_M → Option ((Int32 × Int32 × sm_M) ⊕ sm_S) := fun pc ls st D' M =>
  if pc = 34 then (match ls, st with
    | [.ref 1, .int bl1, .int bl2], [.int bs2, .int bs1, .ref 53] => (sm_dq D' D (jR_checkBlock_34 bl1 bl2 bs1 bs2 D' M))
    | _, _ => none)
  else if pc = 43 then (match ls, st with
    | [.ref 1, .int bl1, .int bl2], [] => (sm_inr (jR_checkBlock_43 bl1 bl2 D' M))
    | _, _ => none)
  else none
theorem ll75_2 (D : sm_D) {R : sm_S} : ∀ (pc : Nat) (ls st : List Value) (D' : sm_D) (M : sm_M) (v : (Int32 × Int32 × sm_M) ⊕ sm_S), (lf75_2 D) pc ls st D' M = some v → (gd75_2 D R) v → sm_WJ smT smCl smSa shM f75 4 pc ls st D' M R := by
  intro pc ls st D' M v h hv
  unfold lf75_2 at h
  split at h
  · rename_i hp0
    subst hp0
    split at h
    · skip
      replace h := sm_dq_inv h
      obtain ⟨he, h⟩ := h
      subst he
      exact w75_34 _ h hv
    · cases h
  · skip
    split at h
    · rename_i hp0
      subst hp0
      split at h
      · skip
        replace h := sm_inr_inv h
        obtain ⟨r, h, he⟩ := h
        subst he
        have hv : r = R := hv
        subst hv
        exact w75_43  h
      · cases h
    · skip
      cases h
set_option maxRecDepth 20000 in
set_option maxHeartbeats 4000000 in
theorem wc75_2 (D : sm_D) {l1 l2 : Int32} {M : sm_M} {R : sm_S} {v : (Int32 × Int32 × sm_M) ⊕ sm_S} (h : jR_checkBlock_2_c l1 l2 D M = some v) (hv : (gd75_2 D R) v) : sm_WJ smT smCl smSa shM f75 4 2 [.ref 1, .int l1, .int l2] [] D M R := by
  have e : jR_checkBlock_2_c l1 l2 D M = (sm_run shM smSa cal75 c75 false (fun a D M => some (.inr (a, D, M))) (lf75_2 D) 95 (c75.drop 2) [.ref 1, .int l1, .int l2] [] D M : Option ((Int32 × Int32 × sm_M) ⊕ sm_S)) := rfl
  exact sm_blk (ρ := (Int32 × Int32 × sm_M) ⊕ sm_S) (gd := (gd75_2 D R)) (kx := 75) (i := 2) smVM rfl (by decide) ck75 (fun a D M v e1 e2 => by cases e1; exact e2.symm) (ll75_2 D) rfl (e.symm.trans h) hv
theorem w75_2 {l1 l2 : Int32} {D : sm_D} {M : sm_M} {R : sm_S} (h : jR_checkBlock_2 l1 l2 D M = some R) : sm_WJ smT smCl smSa shM f75 4 2 [.ref 1, .int l1, .int l2] [] D M R := by
  have hh : lh75_2 D R (l1, l2, M) := by
    refine sm_lp_ind (b := jR_checkBlock_2_b D) (r := R) (lh75_2 D R) ?_ h
    intro s v hb h1 h2
    obtain ⟨z0, z1, M1⟩ := s
    have hv : gd75_2 D R v := by
      cases v with
      | inl s' => exact h1 s' rfl
      | inr r => exact h2 r rfl
    exact wc75_2 D hb hv
  exact hh
noncomputable def lf75_0 (D : sm_D) : Nat → List Value → List Value → sm_D → sm_M → Option (sm_S) := fun pc ls st D' M =>
  if pc = 2 then (match ls, st with
    | [.ref 1, .int bl1, .int bl2], [] => (jR_checkBlock_2 bl1 bl2 D' M)
    | _, _ => none)
  else none
theorem ll75_0 (D : sm_D) {R : sm_S} : ∀ (pc : Nat) (ls st : List Value) (D' : sm_D) (M : sm_M) (v : sm_S), (lf75_0 D) pc ls st D' M = some v → (fun v => v = R) v → sm_WJ smT smCl smSa shM f75 4 pc ls st D' M R := by
  intro pc ls st D' M v h hv
  unfold lf75_0 at h
  split at h
  · rename_i hp0
    subst hp0
    split at h
    · skip
      have hv : v = R := hv
      subst hv
      exact w75_2  h
    · cases h
  · skip
    cases h
set_option maxRecDepth 20000 in
set_option maxHeartbeats 4000000 in
theorem we75 {l1 : Int32} {D : sm_D} {M : sm_M} {R : sm_S} (h : jR_checkBlock l1 D M = some R) : sm_WJ smT smCl smSa shM f75 4 0 [.ref 1, .int l1, .retAddr 0] [] D M R := by
  have e : jR_checkBlock l1 D M = (sm_run shM smSa cal75 c75 false (fun a D M => some (a, D, M)) (lf75_0 D) 95 (c75.drop 0) [.ref 1, .int l1, .retAddr 0] [] D M : Option (sm_S)) := rfl
  exact sm_blk (ρ := sm_S) (gd := (fun v => v = R)) (kx := 75) (i := 0) smVM rfl (by decide) ck75 (fun a D M v e1 e2 => by cases e1; exact e2.symm) (ll75_0 D) rfl (e.symm.trans h) rfl
theorem m75 {l1 : Int32} {D : sm_D} {M : sm_M} {R : sm_S} (h : jR_checkBlock l1 D M = some R) : sm_MJ smT smCl smSa shM f75 4 [.ref 1, .int l1] D M R :=
  sm_met (by decide) (Nat.le_of_ble_eq_true rfl) (List.all_eq_true.mp rfl) (we75  h)

