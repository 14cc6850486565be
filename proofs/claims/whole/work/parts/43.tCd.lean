-- jM_perform
noncomputable def cal141  : sm_Cal := fun x as D M =>
  if x = 106 then (match as with
    | [.ref q0, .int a1] => (sm_ga [q0] gC (jC_lengthOf q0 a1 D M))
    | _ => none)
  else if x = 142 then (match as with
    | [.ref 33, .int a1] => (jM_stop a1 D M)
    | _ => none)
  else if x = 105 then (match as with
    | [.ref q0, .int a1] => (sm_ga [q0] gC (jC_startOf q0 a1 D M))
    | _ => none)
  else if x = 143 then (match as with
    | [.ref 33, .int a1, .int a2, .int a3] => (jM_become a1 a2 a3 D M)
    | _ => none)
  else if x = 144 then (match as with
    | [.ref 33, .int a1, .int a2, .int a3, .int a4] => (jM_reckon a1 a2 a3 a4 D M)
    | _ => none)
  else if x = 145 then (match as with
    | [.ref 33, .int a1, .int a2, .int a3] => (jM_pair a1 a2 a3 D M)
    | _ => none)
  else if x = 146 then (match as with
    | [.ref 33, .int a1, .int a2, .int a3] => (jM_load a1 a2 a3 D M)
    | _ => none)
  else if x = 147 then (match as with
    | [.ref 33, .int a1, .int a2, .int a3] => (jM_unwrap a1 a2 a3 D M)
    | _ => none)
  else if x = 148 then (match as, D with
    | [.ref 33, .int a1], [e0, e1, e2, e3, e4] => (sm_ga [e2] gC (jM_enter e0 e1 e2 e3 e4 a1 M))
    | _, _ => none)
  else if x = 149 then (match as, D with
    | [.ref 33, .int a1, .int a2], [e0, e1, e2, e3, e4] => (jM_branch e0 e1 e2 e3 e4 a1 a2 M)
    | _, _ => none)
  else none
theorem ck141  : sm_CalOk smT smCl smP smSa shC 3 cal141 := by
  intro x g as D M R hx h
  unfold cal141 at h
  split at h
  · rename_i hx'
    subst hx'
    cases (show smP[106]? = some f106 from rfl).symm.trans hx
    split at h
    · replace h := sm_ga_inv h
      obtain ⟨h1, h⟩ := h
      exact Or.inl ⟨1, by omega, m106  h1 h⟩
    · cases h
  · skip
    split at h
    · rename_i hx'
      subst hx'
      cases (show smP[142]? = some f142 from rfl).symm.trans hx
      split at h
      · skip
        exact Or.inl ⟨0, by omega, m142   h⟩
      · cases h
    · skip
      split at h
      · rename_i hx'
        subst hx'
        cases (show smP[105]? = some f105 from rfl).symm.trans hx
        split at h
        · replace h := sm_ga_inv h
          obtain ⟨h1, h⟩ := h
          exact Or.inl ⟨1, by omega, m105  h1 h⟩
        · cases h
      · skip
        split at h
        · rename_i hx'
          subst hx'
          cases (show smP[143]? = some f143 from rfl).symm.trans hx
          split at h
          · skip
            exact Or.inl ⟨0, by omega, m143   h⟩
          · cases h
        · skip
          split at h
          · rename_i hx'
            subst hx'
            cases (show smP[144]? = some f144 from rfl).symm.trans hx
            split at h
            · skip
              exact Or.inl ⟨1, by omega, m144   h⟩
            · cases h
          · skip
            split at h
            · rename_i hx'
              subst hx'
              cases (show smP[145]? = some f145 from rfl).symm.trans hx
              split at h
              · skip
                exact Or.inl ⟨1, by omega, m145   h⟩
              · cases h
            · skip
              split at h
              · rename_i hx'
                subst hx'
                cases (show smP[146]? = some f146 from rfl).symm.trans hx
                split at h
                · skip
                  exact Or.inl ⟨1, by omega, m146   h⟩
                · cases h
              · skip
                split at h
                · rename_i hx'
                  subst hx'
                  cases (show smP[147]? = some f147 from rfl).symm.trans hx
                  split at h
                  · skip
                    exact Or.inl ⟨1, by omega, m147   h⟩
                  · cases h
                · skip
                  split at h
                  · rename_i hx'
                    subst hx'
                    cases (show smP[148]? = some f148 from rfl).symm.trans hx
                    split at h
                    · replace h := sm_ga_inv h
                      obtain ⟨h1, h⟩ := h
                      exact Or.inl ⟨1, by omega, m148  h1 h⟩
                    · cases h
                  · skip
                    split at h
                    · rename_i hx'
                      subst hx'
                      cases (show smP[149]? = some f149 from rfl).symm.trans hx
                      split at h
                      · skip
                        exact Or.inl ⟨2, by omega, m149   h⟩
                      · cases h
                    · skip
                      cases h
set_option maxRecDepth 20000 in
set_option maxHeartbeats 4000000 in
theorem w141_152 (d0 d1 d2 d3 d4 : Nat) (hd2 : [d2] ∈ gC) {l1 l2 l3 l4 : Int32} {M : sm_M} {R : sm_S} (h : jM_perform_152 d0 d1 d2 d3 d4 l1 l2 l3 l4 M = some R) : sm_WJ smT smCl smSa shC f141 3 152 [.ref 33, .int l1, .int l2, .int l3, .int l4] [] [d0, d1, d2, d3, d4] M R := by
  rcases gC_inv hd2 with rfl | rfl
  · have e : jM_perform_152 d0 d1 40 d3 d4 l1 l2 l3 l4 M = (sm_run shC smSa cal141 c141 true (fun a D M => some (a, D, M)) sm_noleaf 141 (c141.drop 51) [.ref 33, .int l1, .int l2, .int l3, .int l4] [] [d0, d1, 40, d3, d4] M : Option (sm_S)) := rfl
    exact sm_blk (ρ := sm_S) (gd := (fun v => v = R)) (kx := 141) (i := 51) smVC rfl (by decide) ck141 (fun a D M v e1 e2 => by cases e1; exact e2.symm) (sm_noleaf_ok) rfl (e.symm.trans h) rfl
  · have e : jM_perform_152 d0 d1 50 d3 d4 l1 l2 l3 l4 M = (sm_run shC smSa cal141 c141 true (fun a D M => some (a, D, M)) sm_noleaf 141 (c141.drop 51) [.ref 33, .int l1, .int l2, .int l3, .int l4] [] [d0, d1, 50, d3, d4] M : Option (sm_S)) := rfl
    exact sm_blk (ρ := sm_S) (gd := (fun v => v = R)) (kx := 141) (i := 51) smVC rfl (by decide) ck141 (fun a D M v e1 e2 => by cases e1; exact e2.symm) (sm_noleaf_ok) rfl (e.symm.trans h) rfl
set_option maxRecDepth 20000 in
set_option maxHeartbeats 4000000 in
theorem w141_226 (d0 d1 d2 d3 d4 : Nat) (hd2 : [d2] ∈ gC) {s0 : Int32} {g0 g1 g2 g3 g4 : Value} {M : sm_M} {R : sm_S} (h : jM_perform_226 d0 d1 d2 d3 d4 s0 M = some R) : sm_WJ smT smCl smSa shC f141 3 226 [g0, g1, g2, g3, g4] [.int s0] [d0, d1, d2, d3, d4] M R := by
  rcases gC_inv hd2 with rfl | rfl
  · have e : jM_perform_226 d0 d1 40 d3 d4 s0 M = (sm_run shC smSa cal141 c141 true (fun a D M => some (a, D, M)) sm_noleaf 141 (c141.drop 98) [g0, g1, g2, g3, g4] [.int s0] [d0, d1, 40, d3, d4] M : Option (sm_S)) := rfl
    exact sm_blk (ρ := sm_S) (gd := (fun v => v = R)) (kx := 141) (i := 98) smVC rfl (by decide) ck141 (fun a D M v e1 e2 => by cases e1; exact e2.symm) (sm_noleaf_ok) rfl (e.symm.trans h) rfl
  · have e : jM_perform_226 d0 d1 50 d3 d4 s0 M = (sm_run shC smSa cal141 c141 true (fun a D M => some (a, D, M)) sm_noleaf 141 (c141.drop 98) [g0, g1, g2, g3, g4] [.int s0] [d0, d1, 50, d3, d4] M : Option (sm_S)) := rfl
    exact sm_blk (ρ := sm_S) (gd := (fun v => v = R)) (kx := 141) (i := 98) smVC rfl (by decide) ck141 (fun a D M v e1 e2 => by cases e1; exact e2.symm) (sm_noleaf_ok) rfl (e.symm.trans h) rfl
set_option maxRecDepth 20000 in
set_option maxHeartbeats 4000000 in
theorem w141_277 (d0 d1 d2 d3 d4 : Nat) (hd2 : [d2] ∈ gC) {s0 : Int32} {g0 g1 g2 g3 g4 : Value} {M : sm_M} {R : sm_S} (h : jM_perform_277 d0 d1 d2 d3 d4 s0 M = some R) : sm_WJ smT smCl smSa shC f141 3 277 [g0, g1, g2, g3, g4] [.int s0] [d0, d1, d2, d3, d4] M R := by
  rcases gC_inv hd2 with rfl | rfl
  · have e : jM_perform_277 d0 d1 40 d3 d4 s0 M = (sm_run shC smSa cal141 c141 true (fun a D M => some (a, D, M)) sm_noleaf 141 (c141.drop 130) [g0, g1, g2, g3, g4] [.int s0] [d0, d1, 40, d3, d4] M : Option (sm_S)) := rfl
    exact sm_blk (ρ := sm_S) (gd := (fun v => v = R)) (kx := 141) (i := 130) smVC rfl (by decide) ck141 (fun a D M v e1 e2 => by cases e1; exact e2.symm) (sm_noleaf_ok) rfl (e.symm.trans h) rfl
  · have e : jM_perform_277 d0 d1 50 d3 d4 s0 M = (sm_run shC smSa cal141 c141 true (fun a D M => some (a, D, M)) sm_noleaf 141 (c141.drop 130) [g0, g1, g2, g3, g4] [.int s0] [d0, d1, 50, d3, d4] M : Option (sm_S)) := rfl
    exact sm_blk (ρ := sm_S) (gd := (fun v => v = R)) (kx := 141) (i := 130) smVC rfl (by decide) ck141 (fun a D M v e1 e2 => by cases e1; exact e2.symm) (sm_noleaf_ok) rfl (e.symm.trans h) rfl
noncomputable def lf141_0 (d0 d1 d2 d3 d4 : Nat) : Nat → List Value → List Value → sm_D → sm_M → Option (sm_S) := fun pc ls st D' M =>
  if pc = 152 then (match ls, st with
    | [.ref 33, .int bl1, .int bl2, .int bl3, .int bl4], [] => (sm_dq D' [d0, d1, d2, d3, d4] (jM_perform_152 d0 d1 d2 d3 d4 bl1 bl2 bl3 bl4 M))
    | _, _ => none)
  else if pc = 226 then (match ls, st with
    | [gl0, gl1, gl2, gl3, gl4], [.int bs0] => (sm_dq D' [d0, d1, d2, d3, d4] (jM_perform_226 d0 d1 d2 d3 d4 bs0 M))
    | _, _ => none)
  else if pc = 277 then (match ls, st with
    | [gl0, gl1, gl2, gl3, gl4], [.int bs0] => (sm_dq D' [d0, d1, d2, d3, d4] (jM_perform_277 d0 d1 d2 d3 d4 bs0 M))
    | _, _ => none)
  else none
theorem ll141_0 (d0 d1 d2 d3 d4 : Nat) (hd2 : [d2] ∈ gC) {R : sm_S} : ∀ (pc : Nat) (ls st : List Value) (D' : sm_D) (M : sm_M) (v : sm_S), (lf141_0 d0 d1 d2 d3 d4) pc ls st D' M = some v → (fun v => v = R) v → sm_WJ smT smCl smSa shC f141 3 pc ls st D' M R := by
  intro pc ls st D' M v h hv
  unfold lf141_0 at h
  split at h
  · rename_i hp0
    subst hp0
    split at h
    · skip
      replace h := sm_dq_inv h
      obtain ⟨he, h⟩ := h
      subst he
      have hv : v = R := hv
      subst hv
      exact w141_152 _ _ _ _ _ hd2 h
    · cases h
  · skip
    split at h
    · rename_i hp0
      subst hp0
      split at h
      · skip
        replace h := sm_dq_inv h
        obtain ⟨he, h⟩ := h
        subst he
        have hv : v = R := hv
        subst hv
        exact w141_226 _ _ _ _ _ hd2 h
      · cases h
    · skip
      split at h
      · rename_i hp0
        subst hp0
        split at h
        · skip
          replace h := sm_dq_inv h
          obtain ⟨he, h⟩ := h
          subst he
          have hv : v = R := hv
          subst hv
          exact w141_277 _ _ _ _ _ hd2 h
        · cases h
      · skip
        cases h
set_option maxRecDepth 20000 in
set_option maxHeartbeats 4000000 in
theorem we141 (d0 d1 d2 d3 d4 : Nat) (hd2 : [d2] ∈ gC) {M : sm_M} {R : sm_S} (h : jM_perform d0 d1 d2 d3 d4 M = some R) : sm_WJ smT smCl smSa shC f141 3 0 [.ref 33, .retAddr 0, .retAddr 0, .retAddr 0, .retAddr 0] [] [d0, d1, d2, d3, d4] M R := by
  rcases gC_inv hd2 with rfl | rfl
  · have e : jM_perform d0 d1 40 d3 d4 M = (sm_run shC smSa cal141 c141 true (fun a D M => some (a, D, M)) (lf141_0 d0 d1 40 d3 d4) 141 (c141.drop 0) [.ref 33, .retAddr 0, .retAddr 0, .retAddr 0, .retAddr 0] [] [d0, d1, 40, d3, d4] M : Option (sm_S)) := rfl
    exact sm_blk (ρ := sm_S) (gd := (fun v => v = R)) (kx := 141) (i := 0) smVC rfl (by decide) ck141 (fun a D M v e1 e2 => by cases e1; exact e2.symm) (ll141_0 d0 d1 40 d3 d4 (by decide)) rfl (e.symm.trans h) rfl
  · have e : jM_perform d0 d1 50 d3 d4 M = (sm_run shC smSa cal141 c141 true (fun a D M => some (a, D, M)) (lf141_0 d0 d1 50 d3 d4) 141 (c141.drop 0) [.ref 33, .retAddr 0, .retAddr 0, .retAddr 0, .retAddr 0] [] [d0, d1, 50, d3, d4] M : Option (sm_S)) := rfl
    exact sm_blk (ρ := sm_S) (gd := (fun v => v = R)) (kx := 141) (i := 0) smVC rfl (by decide) ck141 (fun a D M v e1 e2 => by cases e1; exact e2.symm) (ll141_0 d0 d1 50 d3 d4 (by decide)) rfl (e.symm.trans h) rfl
theorem m141 {d0 d1 d2 d3 d4 : Nat} (hd2 : [d2] ∈ gC) {M : sm_M} {R : sm_S} (h : jM_perform d0 d1 d2 d3 d4 M = some R) : sm_MJ smT smCl smSa shC f141 3 [.ref 33] [d0, d1, d2, d3, d4] M R :=
  sm_met (by decide) (Nat.le_of_ble_eq_true rfl) (List.all_eq_true.mp rfl) (we141 d0 d1 d2 d3 d4 hd2 h)

-- jM_goOn
noncomputable def cal139  : sm_Cal := fun x as D M =>
  if x = 141 then (match as, D with
    | [.ref 33], [e0, e1, e2, e3, e4] => (sm_ga [e2] gC (jM_perform e0 e1 e2 e3 e4 M))
    | _, _ => none)
  else none
theorem ck139  : sm_CalOk smT smCl smP smSa shC 4 cal139 := by
  intro x g as D M R hx h
  unfold cal139 at h
  split at h
  · rename_i hx'
    subst hx'
    cases (show smP[141]? = some f141 from rfl).symm.trans hx
    split at h
    · replace h := sm_ga_inv h
      obtain ⟨h1, h⟩ := h
      exact Or.inl ⟨3, by omega, m141  h1 h⟩
    · cases h
  · skip
    cases h
def lh139_4 (d0 d1 d2 d3 d4 : Nat) (R : sm_S) (s : Int32 × Int32 × Int32 × sm_M) : Prop := sm_WJ smT smCl smSa shC f139 4 4 [.ref 33, .int (s.1), .int (s.2.1), .int (s.2.2.1)] [] [d0, d1, d2, d3, d4] (s.2.2.2) R
def gd139_4 (d0 d1 d2 d3 d4 : Nat) (R : sm_S) (v : (Int32 × Int32 × Int32 × sm_M) ⊕ sm_S) : Prop := match v with
  | .inl s => lh139_4 d0 d1 d2 d3 d4 R s
  | .inr r => r = R
noncomputable def lf139_29 (d0 d1 d2 d3 d4 : Nat) : Nat → List Value → List Value → sm_D → sm_M → Option ((Int32 × Int32 × Int32 × sm_M) ⊕ sm_S) := fun pc ls st D' M =>
  if pc = 4 then (match ls, st with
    | [.ref 33, .int bl1, .int bl2, .int bl3], [] => (sm_dq D' [d0, d1, d2, d3, d4] (some (.inl (bl1, bl2, bl3, M))))
    | _, _ => none)
  else none
theorem ll139_29 (d0 d1 d2 d3 d4 : Nat) {R : sm_S} : ∀ (pc : Nat) (ls st : List Value) (D' : sm_D) (M : sm_M) (v : (Int32 × Int32 × Int32 × sm_M) ⊕ sm_S), (lf139_29 d0 d1 d2 d3 d4) pc ls st D' M = some v → (gd139_4 d0 d1 d2 d3 d4 R) v → sm_WJ smT smCl smSa shC f139 4 pc ls st D' M R := by
  intro pc ls st D' M v h hv
  unfold lf139_29 at h
  split at h
  · rename_i hp0
    subst hp0
    split at h
    · skip
      replace h := sm_dq_inv h
      obtain ⟨he, h⟩ := h
      subst he
      cases h
      exact hv
    · cases h
  · skip
    cases h
set_option maxRecDepth 20000 in
set_option maxHeartbeats 4000000 in
theorem w139_29 (d0 d1 d2 d3 d4 : Nat) {l1 l3 s0 s1 : Int32} {g2 : Value} {M : sm_M} {R : sm_S} {v : (Int32 × Int32 × Int32 × sm_M) ⊕ sm_S} (h : jM_goOn_29 d0 d1 d2 d3 d4 l1 l3 s0 s1 M = some v) (hv : (gd139_4 d0 d1 d2 d3 d4 R) v) : sm_WJ smT smCl smSa shC f139 4 29 [.ref 33, .int l1, g2, .int l3] [.int s1, .int s0] [d0, d1, d2, d3, d4] M R := by
  have e : jM_goOn_29 d0 d1 d2 d3 d4 l1 l3 s0 s1 M = (sm_run shC smSa cal139 c139 false (fun a D M => some (.inr (a, D, M))) (lf139_29 d0 d1 d2 d3 d4) 28 (c139.drop 17) [.ref 33, .int l1, g2, .int l3] [.int s1, .int s0] [d0, d1, d2, d3, d4] M : Option ((Int32 × Int32 × Int32 × sm_M) ⊕ sm_S)) := rfl
  exact sm_blk (ρ := (Int32 × Int32 × Int32 × sm_M) ⊕ sm_S) (gd := (gd139_4 d0 d1 d2 d3 d4 R)) (kx := 139) (i := 17) smVC rfl (by decide) ck139 (fun a D M v e1 e2 => by cases e1; exact e2.symm) (ll139_29 d0 d1 d2 d3 d4) rfl (e.symm.trans h) hv
set_option maxRecDepth 20000 in
set_option maxHeartbeats 4000000 in
theorem w139_37 (d0 d1 d2 d3 d4 : Nat) {l2 : Int32} {g0 g1 g3 : Value} {M : sm_M} {R : sm_S} (h : jM_goOn_37 d0 d1 d2 d3 d4 l2 M = some R) : sm_WJ smT smCl smSa shC f139 4 37 [g0, g1, .int l2, g3] [] [d0, d1, d2, d3, d4] M R := by
  have e : jM_goOn_37 d0 d1 d2 d3 d4 l2 M = (sm_run shC smSa cal139 c139 false (fun a D M => some (a, D, M)) sm_noleaf 28 (c139.drop 21) [g0, g1, .int l2, g3] [] [d0, d1, d2, d3, d4] M : Option (sm_S)) := rfl
  exact sm_blk (ρ := sm_S) (gd := (fun v => v = R)) (kx := 139) (i := 21) smVC rfl (by decide) ck139 (fun a D M v e1 e2 => by cases e1; exact e2.symm) (sm_noleaf_ok) rfl (e.symm.trans h) rfl
noncomputable def lf139_4 (d0 d1 d2 d3 d4 : Nat) : Nat → List Value → List Value → sm_D → sm_M → Option ((Int32 × Int32 × Int32 × sm_M) ⊕ sm_S) := fun pc ls st D' M =>
  if pc = 29 then (match ls, st with
    | [.ref 33, .int bl1, gl2, .int bl3], [.int bs1, .int bs0] => (sm_dq D' [d0, d1, d2, d3, d4] (jM_goOn_29 d0 d1 d2 d3 d4 bl1 bl3 bs0 bs1 M))
    | _, _ => none)
  else if pc = 37 then (match ls, st with
    | [gl0, gl1, .int bl2, gl3], [] => (sm_dq D' [d0, d1, d2, d3, d4] (sm_inr (jM_goOn_37 d0 d1 d2 d3 d4 bl2 M)))
    | _, _ => none)
  else none
theorem ll139_4 (d0 d1 d2 d3 d4 : Nat) {R : sm_S} : ∀ (pc : Nat) (ls st : List Value) (D' : sm_D) (M : sm_M) (v : (Int32 × Int32 × Int32 × sm_M) ⊕ sm_S), (lf139_4 d0 d1 d2 d3 d4) pc ls st D' M = some v → (gd139_4 d0 d1 d2 d3 d4 R) v → sm_WJ smT smCl smSa shC f139 4 pc ls st D' M R := by
  intro pc ls st D' M v h hv
  unfold lf139_4 at h
  split at h
  · rename_i hp0
    subst hp0
    split at h
    · skip
      replace h := sm_dq_inv h
      obtain ⟨he, h⟩ := h
      subst he
      exact w139_29 _ _ _ _ _ h hv
    · cases h
  · skip
    split at h
    · rename_i hp0
      subst hp0
      split at h
      · skip
        replace h := sm_dq_inv h
        obtain ⟨he, h⟩ := h
        subst he
        replace h := sm_inr_inv h
        obtain ⟨r, h, he⟩ := h
        subst he
        have hv : r = R := hv
        subst hv
        exact w139_37 _ _ _ _ _ h
      · cases h
    · skip
      cases h
set_option maxRecDepth 20000 in
set_option maxHeartbeats 4000000 in
theorem wc139_4 (d0 d1 d2 d3 d4 : Nat) {l1 l2 l3 : Int32} {M : sm_M} {R : sm_S} {v : (Int32 × Int32 × Int32 × sm_M) ⊕ sm_S} (h : jM_goOn_4_c d0 d1 d2 d3 d4 l1 l2 l3 M = some v) (hv : (gd139_4 d0 d1 d2 d3 d4 R) v) : sm_WJ smT smCl smSa shC f139 4 4 [.ref 33, .int l1, .int l2, .int l3] [] [d0, d1, d2, d3, d4] M R := by
  have e : jM_goOn_4_c d0 d1 d2 d3 d4 l1 l2 l3 M = (sm_run shC smSa cal139 c139 false (fun a D M => some (.inr (a, D, M))) (lf139_4 d0 d1 d2 d3 d4) 28 (c139.drop 4) [.ref 33, .int l1, .int l2, .int l3] [] [d0, d1, d2, d3, d4] M : Option ((Int32 × Int32 × Int32 × sm_M) ⊕ sm_S)) := rfl
  exact sm_blk (ρ := (Int32 × Int32 × Int32 × sm_M) ⊕ sm_S) (gd := (gd139_4 d0 d1 d2 d3 d4 R)) (kx := 139) (i := 4) smVC rfl (by decide) ck139 (fun a D M v e1 e2 => by cases e1; exact e2.symm) (ll139_4 d0 d1 d2 d3 d4) rfl (e.symm.trans h) hv
theorem w139_4 (d0 d1 d2 d3 d4 : Nat) {l1 l2 l3 : Int32} {M : sm_M} {R : sm_S} (h : jM_goOn_4 d0 d1 d2 d3 d4 l1 l2 l3 M = some R) : sm_WJ smT smCl smSa shC f139 4 4 [.ref 33, .int l1, .int l2, .int l3] [] [d0, d1, d2, d3, d4] M R := by
  have hh : lh139_4 d0 d1 d2 d3 d4 R (l1, l2, l3, M) := by
    refine sm_lp_ind (b := jM_goOn_4_b d0 d1 d2 d3 d4) (r := R) (lh139_4 d0 d1 d2 d3 d4 R) ?_ h
    intro s v hb h1 h2
    obtain ⟨z0, z1, z2, M1⟩ := s
    have hv : gd139_4 d0 d1 d2 d3 d4 R v := by
      cases v with
      | inl s' => exact h1 s' rfl
      | inr r => exact h2 r rfl
    exact wc139_4 d0 d1 d2 d3 d4 hb hv
  exact hh
noncomputable def lf139_0 (d0 d1 d2 d3 d4 : Nat) : Nat → List Value → List Value → sm_D → sm_M → Option (sm_S) := fun pc ls st D' M =>
  if pc = 4 then (match ls, st with
    | [.ref 33, .int bl1, .int bl2, .int bl3], [] => (sm_dq D' [d0, d1, d2, d3, d4] (jM_goOn_4 d0 d1 d2 d3 d4 bl1 bl2 bl3 M))
    | _, _ => none)
  else none
theorem ll139_0 (d0 d1 d2 d3 d4 : Nat) {R : sm_S} : ∀ (pc : Nat) (ls st : List Value) (D' : sm_D) (M : sm_M) (v : sm_S), (lf139_0 d0 d1 d2 d3 d4) pc ls st D' M = some v → (fun v => v = R) v → sm_WJ smT smCl smSa shC f139 4 pc ls st D' M R := by
  intro pc ls st D' M v h hv
  unfold lf139_0 at h
  split at h
  · rename_i hp0
    subst hp0
    split at h
    · skip
      replace h := sm_dq_inv h
      obtain ⟨he, h⟩ := h
      subst he
      have hv : v = R := hv
      subst hv
      exact w139_4 _ _ _ _ _ h
    · cases h
  · skip
    cases h
set_option maxRecDepth 20000 in
set_option maxHeartbeats 4000000 in
theorem we139 (d0 d1 d2 d3 d4 : Nat) {l1 : Int32} {M : sm_M} {R : sm_S} (h : jM_goOn d0 d1 d2 d3 d4 l1 M = some R) : sm_WJ smT smCl smSa shC f139 4 0 [.ref 33, .int l1, .retAddr 0, .retAddr 0] [] [d0, d1, d2, d3, d4] M R := by
  have e : jM_goOn d0 d1 d2 d3 d4 l1 M = (sm_run shC smSa cal139 c139 false (fun a D M => some (a, D, M)) (lf139_0 d0 d1 d2 d3 d4) 28 (c139.drop 0) [.ref 33, .int l1, .retAddr 0, .retAddr 0] [] [d0, d1, d2, d3, d4] M : Option (sm_S)) := rfl
  exact sm_blk (ρ := sm_S) (gd := (fun v => v = R)) (kx := 139) (i := 0) smVC rfl (by decide) ck139 (fun a D M v e1 e2 => by cases e1; exact e2.symm) (ll139_0 d0 d1 d2 d3 d4) rfl (e.symm.trans h) rfl
theorem m139 {d0 d1 d2 d3 d4 : Nat} {l1 : Int32} {M : sm_M} {R : sm_S} (h : jM_goOn d0 d1 d2 d3 d4 l1 M = some R) : sm_MJ smT smCl smSa shC f139 4 [.ref 33, .int l1] [d0, d1, d2, d3, d4] M R :=
  sm_met (by decide) (Nat.le_of_ble_eq_true rfl) (List.all_eq_true.mp rfl) (we139 d0 d1 d2 d3 d4 h)

-- jA_run
noncomputable def cal11  : sm_Cal := fun x as D M =>
  if x = 139 then (match as, D with
    | [.ref 33, .int a1], [e0, e1, e2, e3, e4] => (jM_goOn e0 e1 e2 e3 e4 a1 M)
    | _, _ => none)
  else none
theorem ck11  : sm_CalOk smT smCl smP smSa shC 5 cal11 := by
  intro x g as D M R hx h
  unfold cal11 at h
  split at h
  · rename_i hx'
    subst hx'
    cases (show smP[139]? = some f139 from rfl).symm.trans hx
    split at h
    · skip
      exact Or.inl ⟨4, by omega, m139   h⟩
    · cases h
  · skip
    cases h
set_option maxRecDepth 20000 in
set_option maxHeartbeats 4000000 in
theorem w11_23 (d0 d1 d2 d3 d4 : Nat) {s0 : Int32} {g0 g1 : Value} {M : sm_M} {R : sm_S} (h : jA_run_23 d0 d1 d2 d3 d4 s0 M = some R) : sm_WJ smT smCl smSa shC f11 5 23 [g0, g1] [.int s0] [d0, d1, d2, d3, d4] M R := by
  have e : jA_run_23 d0 d1 d2 d3 d4 s0 M = (sm_run shC smSa cal11 c11 false (fun a D M => some (a, D, M)) sm_noleaf 17 (c11.drop 11) [g0, g1] [.int s0] [d0, d1, d2, d3, d4] M : Option (sm_S)) := rfl
  exact sm_blk (ρ := sm_S) (gd := (fun v => v = R)) (kx := 11) (i := 11) smVC rfl (by decide) ck11 (fun a D M v e1 e2 => by cases e1; exact e2.symm) (sm_noleaf_ok) rfl (e.symm.trans h) rfl
noncomputable def lf11_11 (d0 d1 d2 d3 d4 : Nat) : Nat → List Value → List Value → sm_D → sm_M → Option (sm_S) := fun pc ls st D' M =>
  if pc = 23 then (match ls, st with
    | [gl0, gl1], [.int bs0] => (sm_dq D' [d0, d1, d2, d3, d4] (jA_run_23 d0 d1 d2 d3 d4 bs0 M))
    | _, _ => none)
  else none
theorem ll11_11 (d0 d1 d2 d3 d4 : Nat) {R : sm_S} : ∀ (pc : Nat) (ls st : List Value) (D' : sm_D) (M : sm_M) (v : sm_S), (lf11_11 d0 d1 d2 d3 d4) pc ls st D' M = some v → (fun v => v = R) v → sm_WJ smT smCl smSa shC f11 5 pc ls st D' M R := by
  intro pc ls st D' M v h hv
  unfold lf11_11 at h
  split at h
  · rename_i hp0
    subst hp0
    split at h
    · skip
      replace h := sm_dq_inv h
      obtain ⟨he, h⟩ := h
      subst he
      have hv : v = R := hv
      subst hv
      exact w11_23 _ _ _ _ _ h
    · cases h
  · skip
    cases h
set_option maxRecDepth 20000 in
set_option maxHeartbeats 4000000 in
theorem w11_11 (d0 d1 d2 d3 d4 : Nat) {g0 g1 : Value} {M : sm_M} {R : sm_S} (h : jA_run_11 d0 d1 d2 d3 d4 M = some R) : sm_WJ smT smCl smSa shC f11 5 11 [g0, g1] [] [d0, d1, d2, d3, d4] M R := by
  have e : jA_run_11 d0 d1 d2 d3 d4 M = (sm_run shC smSa cal11 c11 false (fun a D M => some (a, D, M)) (lf11_11 d0 d1 d2 d3 d4) 17 (c11.drop 5) [g0, g1] [] [d0, d1, d2, d3, d4] M : Option (sm_S)) := rfl
  exact sm_blk (ρ := sm_S) (gd := (fun v => v = R)) (kx := 11) (i := 5) smVC rfl (by decide) ck11 (fun a D M v e1 e2 => by cases e1; exact e2.symm) (ll11_11 d0 d1 d2 d3 d4) rfl (e.symm.trans h) rfl
noncomputable def lf11_0 (d0 d1 d2 d3 d4 : Nat) : Nat → List Value → List Value → sm_D → sm_M → Option (sm_S) := fun pc ls st D' M =>
  if pc = 11 then (match ls, st with
    | [gl0, gl1], [] => (sm_dq D' [d0, d1, d2, d3, d4] (jA_run_11 d0 d1 d2 d3 d4 M))
    | _, _ => none)
  else if pc = 23 then (match ls, st with
    | [gl0, gl1], [.int bs0] => (sm_dq D' [d0, d1, d2, d3, d4] (jA_run_23 d0 d1 d2 d3 d4 bs0 M))
    | _, _ => none)
  else none
theorem ll11_0 (d0 d1 d2 d3 d4 : Nat) {R : sm_S} : ∀ (pc : Nat) (ls st : List Value) (D' : sm_D) (M : sm_M) (v : sm_S), (lf11_0 d0 d1 d2 d3 d4) pc ls st D' M = some v → (fun v => v = R) v → sm_WJ smT smCl smSa shC f11 5 pc ls st D' M R := by
  intro pc ls st D' M v h hv
  unfold lf11_0 at h
  split at h
  · rename_i hp0
    subst hp0
    split at h
    · skip
      replace h := sm_dq_inv h
      obtain ⟨he, h⟩ := h
      subst he
      have hv : v = R := hv
      subst hv
      exact w11_11 _ _ _ _ _ h
    · cases h
  · skip
    split at h
    · rename_i hp0
      subst hp0
      split at h
      · skip
        replace h := sm_dq_inv h
        obtain ⟨he, h⟩ := h
        subst he
        have hv : v = R := hv
        subst hv
        exact w11_23 _ _ _ _ _ h
      · cases h
    · skip
      cases h
set_option maxRecDepth 20000 in
set_option maxHeartbeats 4000000 in
theorem we11 (d0 d1 d2 d3 d4 : Nat) {l1 : Int32} {M : sm_M} {R : sm_S} (h : jA_run d0 d1 d2 d3 d4 l1 M = some R) : sm_WJ smT smCl smSa shC f11 5 0 [.ref 60, .int l1] [] [d0, d1, d2, d3, d4] M R := by
  have e : jA_run d0 d1 d2 d3 d4 l1 M = (sm_run shC smSa cal11 c11 false (fun a D M => some (a, D, M)) (lf11_0 d0 d1 d2 d3 d4) 17 (c11.drop 0) [.ref 60, .int l1] [] [d0, d1, d2, d3, d4] M : Option (sm_S)) := rfl
  exact sm_blk (ρ := sm_S) (gd := (fun v => v = R)) (kx := 11) (i := 0) smVC rfl (by decide) ck11 (fun a D M v e1 e2 => by cases e1; exact e2.symm) (ll11_0 d0 d1 d2 d3 d4) rfl (e.symm.trans h) rfl
theorem m11 {d0 d1 d2 d3 d4 : Nat} {l1 : Int32} {M : sm_M} {R : sm_S} (h : jA_run d0 d1 d2 d3 d4 l1 M = some R) : sm_MJ smT smCl smSa shC f11 5 [.ref 60, .int l1] [d0, d1, d2, d3, d4] M R :=
  sm_met (by decide) (Nat.le_of_ble_eq_true rfl) (List.all_eq_true.mp rfl) (we11 d0 d1 d2 d3 d4 h)

-- jA_state
set_option maxRecDepth 20000 in
set_option maxHeartbeats 4000000 in
theorem we12 {D : sm_D} {M : sm_M} {R : sm_S} (h : jA_state D M = some R) : sm_WJ smT smCl smSa shC f12 0 0 [.ref 60] [] D M R := by
  have e : jA_state D M = (sm_run shC smSa sm_nocal c12 false (fun a D M => some (a, D, M)) sm_noleaf 9 (c12.drop 0) [.ref 60] [] D M : Option (sm_S)) := rfl
  exact sm_blk (ρ := sm_S) (gd := (fun v => v = R)) (kx := 12) (i := 0) smVC rfl (by decide) (sm_nocal_ok smT smCl smP smSa shC 0) (fun a D M v e1 e2 => by cases e1; exact e2.symm) (sm_noleaf_ok) rfl (e.symm.trans h) rfl
theorem m12 {D : sm_D} {M : sm_M} {R : sm_S} (h : jA_state D M = some R) : sm_MJ smT smCl smSa shC f12 0 [.ref 60] D M R :=
  sm_met (by decide) (Nat.le_of_ble_eq_true rfl) (List.all_eq_true.mp rfl) (we12  h)

-- jM_tellRegister
set_option maxRecDepth 20000 in
set_option maxHeartbeats 4000000 in
theorem w140_19 {g0 g1 g2 : Value} {D : sm_D} {M : sm_M} {R : sm_S} (h : jM_tellRegister_19 D M = some R) : sm_WJ smT smCl smSa shC f140 0 19 [g0, g1, g2] [] D M R := by
  have e : jM_tellRegister_19 D M = (sm_run shC smSa sm_nocal c140 false (fun a D M => some (a, D, M)) sm_noleaf 30 (c140.drop 11) [g0, g1, g2] [] D M : Option (sm_S)) := rfl
  exact sm_blk (ρ := sm_S) (gd := (fun v => v = R)) (kx := 140) (i := 11) smVC rfl (by decide) (sm_nocal_ok smT smCl smP smSa shC 0) (fun a D M v e1 e2 => by cases e1; exact e2.symm) (sm_noleaf_ok) rfl (e.symm.trans h) rfl
set_option maxRecDepth 20000 in
set_option maxHeartbeats 4000000 in
theorem w140_40 {s0 : Int32} {g0 g1 g2 : Value} {D : sm_D} {M : sm_M} {R : sm_S} (h : jM_tellRegister_40 s0 D M = some R) : sm_WJ smT smCl smSa shC f140 0 40 [g0, g1, g2] [.int s0] D M R := by
  have e : jM_tellRegister_40 s0 D M = (sm_run shC smSa sm_nocal c140 false (fun a D M => some (a, D, M)) sm_noleaf 30 (c140.drop 24) [g0, g1, g2] [.int s0] D M : Option (sm_S)) := rfl
  exact sm_blk (ρ := sm_S) (gd := (fun v => v = R)) (kx := 140) (i := 24) smVC rfl (by decide) (sm_nocal_ok smT smCl smP smSa shC 0) (fun a D M v e1 e2 => by cases e1; exact e2.symm) (sm_noleaf_ok) rfl (e.symm.trans h) rfl
noncomputable def lf140_0 (D : sm_D) : Nat → List Value → List Value → sm_D → sm_M → Option (sm_S) := fun pc ls st D' M =>
  if pc = 19 then (match ls, st with
    | [gl0, gl1, gl2], [] => (jM_tellRegister_19 D' M)
    | _, _ => none)
  else if pc = 40 then (match ls, st with
    | [gl0, gl1, gl2], [.int bs0] => (jM_tellRegister_40 bs0 D' M)
    | _, _ => none)
  else none
theorem ll140_0 (D : sm_D) {R : sm_S} : ∀ (pc : Nat) (ls st : List Value) (D' : sm_D) (M : sm_M) (v : sm_S), (lf140_0 D) pc ls st D' M = some v → (fun v => v = R) v → sm_WJ smT smCl smSa shC f140 0 pc ls st D' M R := by
  intro pc ls st D' M v h hv
  unfold lf140_0 at h
  split at h
  · rename_i hp0
    subst hp0
    split at h
    · skip
      have hv : v = R := hv
      subst hv
      exact w140_19  h
    · cases h
  · skip
    split at h
    · rename_i hp0
      subst hp0
      split at h
      · skip
        have hv : v = R := hv
        subst hv
        exact w140_40  h
      · cases h
    · skip
      cases h
set_option maxRecDepth 20000 in
set_option maxHeartbeats 4000000 in
theorem we140 {l1 l2 : Int32} {D : sm_D} {M : sm_M} {R : sm_S} (h : jM_tellRegister l1 l2 D M = some R) : sm_WJ smT smCl smSa shC f140 0 0 [.ref 33, .int l1, .int l2] [] D M R := by
  have e : jM_tellRegister l1 l2 D M = (sm_run shC smSa sm_nocal c140 false (fun a D M => some (a, D, M)) (lf140_0 D) 30 (c140.drop 0) [.ref 33, .int l1, .int l2] [] D M : Option (sm_S)) := rfl
  exact sm_blk (ρ := sm_S) (gd := (fun v => v = R)) (kx := 140) (i := 0) smVC rfl (by decide) (sm_nocal_ok smT smCl smP smSa shC 0) (fun a D M v e1 e2 => by cases e1; exact e2.symm) (ll140_0 D) rfl (e.symm.trans h) rfl
theorem m140 {l1 l2 : Int32} {D : sm_D} {M : sm_M} {R : sm_S} (h : jM_tellRegister l1 l2 D M = some R) : sm_MJ smT smCl smSa shC f140 0 [.ref 33, .int l1, .int l2] D M R :=
  sm_met (by decide) (Nat.le_of_ble_eq_true rfl) (List.all_eq_true.mp rfl) (we140  h)

-- jA_register
noncomputable def cal13  : sm_Cal := fun x as D M =>
  if x = 140 then (match as with
    | [.ref 33, .int a1, .int a2] => (jM_tellRegister a1 a2 D M)
    | _ => none)
  else none
theorem ck13  : sm_CalOk smT smCl smP smSa shC 1 cal13 := by
  intro x g as D M R hx h
  unfold cal13 at h
  split at h
  · rename_i hx'
    subst hx'
    cases (show smP[140]? = some f140 from rfl).symm.trans hx
    split at h
    · skip
      exact Or.inl ⟨0, by omega, m140   h⟩
    · cases h
  · skip
    cases h
set_option maxRecDepth 20000 in
set_option maxHeartbeats 4000000 in
theorem we13 {l1 l2 : Int32} {D : sm_D} {M : sm_M} {R : sm_S} (h : jA_register l1 l2 D M = some R) : sm_WJ smT smCl smSa shC f13 1 0 [.ref 60, .int l1, .int l2] [] D M R := by
  have e : jA_register l1 l2 D M = (sm_run shC smSa cal13 c13 false (fun a D M => some (a, D, M)) sm_noleaf 11 (c13.drop 0) [.ref 60, .int l1, .int l2] [] D M : Option (sm_S)) := rfl
  exact sm_blk (ρ := sm_S) (gd := (fun v => v = R)) (kx := 13) (i := 0) smVC rfl (by decide) ck13 (fun a D M v e1 e2 => by cases e1; exact e2.symm) (sm_noleaf_ok) rfl (e.symm.trans h) rfl
theorem m13 {l1 l2 : Int32} {D : sm_D} {M : sm_M} {R : sm_S} (h : jA_register l1 l2 D M = some R) : sm_MJ smT smCl smSa shC f13 1 [.ref 60, .int l1, .int l2] D M R :=
  sm_met (by decide) (Nat.le_of_ble_eq_true rfl) (List.all_eq_true.mp rfl) (we13  h)

-- jW_writeVariable
noncomputable def cal118  : sm_Cal := fun x as D M =>
  if x = 113 then (match as with
    | [.ref q0, .int a1, .int a2, .int a3, .int a4] => (sm_ga [q0] gC (jC_put q0 a1 a2 a3 a4 D M))
    | _ => none)
  else if x = 154 then (match as with
    | [.ref 1, .int a1] => (jT_secondOf a1 D M)
    | _ => none)
  else none
theorem ck118  : sm_CalOk smT smCl smP smSa shC 2 cal118 := by
  intro x g as D M R hx h
  unfold cal118 at h
  split at h
  · rename_i hx'
    subst hx'
    cases (show smP[113]? = some f113 from rfl).symm.trans hx
    split at h
    · replace h := sm_ga_inv h
      obtain ⟨h1, h⟩ := h
      exact Or.inl ⟨1, by omega, m113  h1 h⟩
    · cases h
  · skip
    split at h
    · rename_i hx'
      subst hx'
      cases (show smP[154]? = some f154 from rfl).symm.trans hx
      split at h
      · skip
        exact Or.inl ⟨1, by omega, m154   h⟩
      · cases h
    · skip
      cases h
def lh118_8 (d0 d1 d2 d3 d4 : Nat) (R : sm_S) (s : Int32 × Int32 × Int32 × sm_M) : Prop := ∀ (g1 g2 g6 : Value), sm_WJ smT smCl smSa shC f118 2 8 [.ref 24, g1, g2, .int (s.1), .int (s.2.1), .int (s.2.2.1), g6] [] [d0, d1, d2, d3, d4] (s.2.2.2) R
def gd118_8 (d0 d1 d2 d3 d4 : Nat) (R : sm_S) (v : (Int32 × Int32 × Int32 × sm_M) ⊕ sm_S) : Prop := match v with
  | .inl s => lh118_8 d0 d1 d2 d3 d4 R s
  | .inr r => r = R
noncomputable def lf118_51 (d0 d1 d2 d3 d4 : Nat) : Nat → List Value → List Value → sm_D → sm_M → Option ((Int32 × Int32 × Int32 × sm_M) ⊕ sm_S) := fun pc ls st D' M =>
  if pc = 8 then (match ls, st with
    | [.ref 24, gl1, gl2, .int bl3, .int bl4, .int bl5, gl6], [] => (sm_dq D' [d0, d1, d2, d3, d4] (some (.inl (bl3, bl4, bl5, M))))
    | _, _ => none)
  else none
theorem ll118_51 (d0 d1 d2 d3 d4 : Nat) (hd4 : [d4] ∈ gC) {R : sm_S} : ∀ (pc : Nat) (ls st : List Value) (D' : sm_D) (M : sm_M) (v : (Int32 × Int32 × Int32 × sm_M) ⊕ sm_S), (lf118_51 d0 d1 d2 d3 d4) pc ls st D' M = some v → (gd118_8 d0 d1 d2 d3 d4 R) v → sm_WJ smT smCl smSa shC f118 2 pc ls st D' M R := by
  intro pc ls st D' M v h hv
  unfold lf118_51 at h
  split at h
  · rename_i hp0
    subst hp0
    split at h
    · skip
      replace h := sm_dq_inv h
      obtain ⟨he, h⟩ := h
      subst he
      cases h
      exact hv _ _ _
    · cases h
  · skip
    cases h
set_option maxRecDepth 20000 in
set_option maxHeartbeats 4000000 in
theorem w118_51 (d0 d1 d2 d3 d4 : Nat) (hd4 : [d4] ∈ gC) {l3 l5 s0 s1 : Int32} {g1 g2 g4 g6 : Value} {M : sm_M} {R : sm_S} {v : (Int32 × Int32 × Int32 × sm_M) ⊕ sm_S} (h : jW_writeVariable_51 d0 d1 d2 d3 d4 l3 l5 s0 s1 M = some v) (hv : (gd118_8 d0 d1 d2 d3 d4 R) v) : sm_WJ smT smCl smSa shC f118 2 51 [.ref 24, g1, g2, .int l3, g4, .int l5, g6] [.int s1, .int s0] [d0, d1, d2, d3, d4] M R := by
  rcases gC_inv hd4 with rfl | rfl
  · have e : jW_writeVariable_51 d0 d1 d2 d3 40 l3 l5 s0 s1 M = (sm_run shC smSa cal118 c118 false (fun a D M => some (.inr (a, D, M))) (lf118_51 d0 d1 d2 d3 40) 88 (c118.drop 28) [.ref 24, g1, g2, .int l3, g4, .int l5, g6] [.int s1, .int s0] [d0, d1, d2, d3, 40] M : Option ((Int32 × Int32 × Int32 × sm_M) ⊕ sm_S)) := rfl
    exact sm_blk (ρ := (Int32 × Int32 × Int32 × sm_M) ⊕ sm_S) (gd := (gd118_8 d0 d1 d2 d3 40 R)) (kx := 118) (i := 28) smVC rfl (by decide) ck118 (fun a D M v e1 e2 => by cases e1; exact e2.symm) (ll118_51 d0 d1 d2 d3 40 (by decide)) rfl (e.symm.trans h) hv
  · have e : jW_writeVariable_51 d0 d1 d2 d3 50 l3 l5 s0 s1 M = (sm_run shC smSa cal118 c118 false (fun a D M => some (.inr (a, D, M))) (lf118_51 d0 d1 d2 d3 50) 88 (c118.drop 28) [.ref 24, g1, g2, .int l3, g4, .int l5, g6] [.int s1, .int s0] [d0, d1, d2, d3, 50] M : Option ((Int32 × Int32 × Int32 × sm_M) ⊕ sm_S)) := rfl
    exact sm_blk (ρ := (Int32 × Int32 × Int32 × sm_M) ⊕ sm_S) (gd := (gd118_8 d0 d1 d2 d3 50 R)) (kx := 118) (i := 28) smVC rfl (by decide) ck118 (fun a D M v e1 e2 => by cases e1; exact e2.symm) (ll118_51 d0 d1 d2 d3 50 (by decide)) rfl (e.symm.trans h) hv
noncomputable def lf118_35 (d0 d1 d2 d3 d4 : Nat) : Nat → List Value → List Value → sm_D → sm_M → Option ((Int32 × Int32 × Int32 × sm_M) ⊕ sm_S) := fun pc ls st D' M =>
  if pc = 51 then (match ls, st with
    | [.ref 24, gl1, gl2, .int bl3, gl4, .int bl5, gl6], [.int bs1, .int bs0] => (sm_dq D' [d0, d1, d2, d3, d4] (jW_writeVariable_51 d0 d1 d2 d3 d4 bl3 bl5 bs0 bs1 M))
    | _, _ => none)
  else none
theorem ll118_35 (d0 d1 d2 d3 d4 : Nat) (hd4 : [d4] ∈ gC) {R : sm_S} : ∀ (pc : Nat) (ls st : List Value) (D' : sm_D) (M : sm_M) (v : (Int32 × Int32 × Int32 × sm_M) ⊕ sm_S), (lf118_35 d0 d1 d2 d3 d4) pc ls st D' M = some v → (gd118_8 d0 d1 d2 d3 d4 R) v → sm_WJ smT smCl smSa shC f118 2 pc ls st D' M R := by
  intro pc ls st D' M v h hv
  unfold lf118_35 at h
  split at h
  · rename_i hp0
    subst hp0
    split at h
    · skip
      replace h := sm_dq_inv h
      obtain ⟨he, h⟩ := h
      subst he
      exact w118_51 _ _ _ _ _ hd4 h hv
    · cases h
  · skip
    cases h
set_option maxRecDepth 20000 in
set_option maxHeartbeats 4000000 in
theorem w118_35 (d0 d1 d2 d3 d4 : Nat) (hd4 : [d4] ∈ gC) {l3 l4 l5 : Int32} {g1 g2 g6 : Value} {M : sm_M} {R : sm_S} {v : (Int32 × Int32 × Int32 × sm_M) ⊕ sm_S} (h : jW_writeVariable_35 d0 d1 d2 d3 d4 l3 l4 l5 M = some v) (hv : (gd118_8 d0 d1 d2 d3 d4 R) v) : sm_WJ smT smCl smSa shC f118 2 35 [.ref 24, g1, g2, .int l3, .int l4, .int l5, g6] [] [d0, d1, d2, d3, d4] M R := by
  rcases gC_inv hd4 with rfl | rfl
  · have e : jW_writeVariable_35 d0 d1 d2 d3 40 l3 l4 l5 M = (sm_run shC smSa cal118 c118 false (fun a D M => some (.inr (a, D, M))) (lf118_35 d0 d1 d2 d3 40) 88 (c118.drop 19) [.ref 24, g1, g2, .int l3, .int l4, .int l5, g6] [] [d0, d1, d2, d3, 40] M : Option ((Int32 × Int32 × Int32 × sm_M) ⊕ sm_S)) := rfl
    exact sm_blk (ρ := (Int32 × Int32 × Int32 × sm_M) ⊕ sm_S) (gd := (gd118_8 d0 d1 d2 d3 40 R)) (kx := 118) (i := 19) smVC rfl (by decide) ck118 (fun a D M v e1 e2 => by cases e1; exact e2.symm) (ll118_35 d0 d1 d2 d3 40 (by decide)) rfl (e.symm.trans h) hv
  · have e : jW_writeVariable_35 d0 d1 d2 d3 50 l3 l4 l5 M = (sm_run shC smSa cal118 c118 false (fun a D M => some (.inr (a, D, M))) (lf118_35 d0 d1 d2 d3 50) 88 (c118.drop 19) [.ref 24, g1, g2, .int l3, .int l4, .int l5, g6] [] [d0, d1, d2, d3, 50] M : Option ((Int32 × Int32 × Int32 × sm_M) ⊕ sm_S)) := rfl
    exact sm_blk (ρ := (Int32 × Int32 × Int32 × sm_M) ⊕ sm_S) (gd := (gd118_8 d0 d1 d2 d3 50 R)) (kx := 118) (i := 19) smVC rfl (by decide) ck118 (fun a D M v e1 e2 => by cases e1; exact e2.symm) (ll118_35 d0 d1 d2 d3 50 (by decide)) rfl (e.symm.trans h) hv
set_option maxRecDepth 20000 in
set_option maxHeartbeats 4000000 in
theorem w118_135 (d0 d1 d2 d3 d4 : Nat) (hd4 : [d4] ∈ gC) {l3 : Int32} {g1 g2 g4 g5 g6 : Value} {M : sm_M} {R : sm_S} (h : jW_writeVariable_135 d0 d1 d2 d3 d4 l3 M = some R) : sm_WJ smT smCl smSa shC f118 2 135 [.ref 24, g1, g2, .int l3, g4, g5, g6] [] [d0, d1, d2, d3, d4] M R := by
  rcases gC_inv hd4 with rfl | rfl
  · have e : jW_writeVariable_135 d0 d1 d2 d3 40 l3 M = (sm_run shC smSa cal118 c118 false (fun a D M => some (a, D, M)) sm_noleaf 88 (c118.drop 75) [.ref 24, g1, g2, .int l3, g4, g5, g6] [] [d0, d1, d2, d3, 40] M : Option (sm_S)) := rfl
    exact sm_blk (ρ := sm_S) (gd := (fun v => v = R)) (kx := 118) (i := 75) smVC rfl (by decide) ck118 (fun a D M v e1 e2 => by cases e1; exact e2.symm) (sm_noleaf_ok) rfl (e.symm.trans h) rfl
  · have e : jW_writeVariable_135 d0 d1 d2 d3 50 l3 M = (sm_run shC smSa cal118 c118 false (fun a D M => some (a, D, M)) sm_noleaf 88 (c118.drop 75) [.ref 24, g1, g2, .int l3, g4, g5, g6] [] [d0, d1, d2, d3, 50] M : Option (sm_S)) := rfl
    exact sm_blk (ρ := sm_S) (gd := (fun v => v = R)) (kx := 118) (i := 75) smVC rfl (by decide) ck118 (fun a D M v e1 e2 => by cases e1; exact e2.symm) (sm_noleaf_ok) rfl (e.symm.trans h) rfl
def lh118_100 (d0 d1 d2 d3 d4 : Nat) (R : sm_S) (s : Int32 × Int32 × Int32 × sm_M) : Prop := ∀ (g1 g2 g4 : Value), sm_WJ smT smCl smSa shC f118 2 100 [.ref 24, g1, g2, .int (s.1), g4, .int (s.2.1), .int (s.2.2.1)] [] [d0, d1, d2, d3, d4] (s.2.2.2) R
def gd118_100 (d0 d1 d2 d3 d4 : Nat) (R : sm_S) (v : (Int32 × Int32 × Int32 × sm_M) ⊕ sm_S) : Prop := match v with
  | .inl s => lh118_100 d0 d1 d2 d3 d4 R s
  | .inr r => r = R
noncomputable def lf118_100 (d0 d1 d2 d3 d4 : Nat) : Nat → List Value → List Value → sm_D → sm_M → Option ((Int32 × Int32 × Int32 × sm_M) ⊕ sm_S) := fun pc ls st D' M =>
  if pc = 100 then (match ls, st with
    | [.ref 24, gl1, gl2, .int bl3, gl4, .int bl5, .int bl6], [] => (sm_dq D' [d0, d1, d2, d3, d4] (some (.inl (bl3, bl5, bl6, M))))
    | _, _ => none)
  else if pc = 135 then (match ls, st with
    | [.ref 24, gl1, gl2, .int bl3, gl4, gl5, gl6], [] => (sm_dq D' [d0, d1, d2, d3, d4] (sm_inr (jW_writeVariable_135 d0 d1 d2 d3 d4 bl3 M)))
    | _, _ => none)
  else none
theorem ll118_100 (d0 d1 d2 d3 d4 : Nat) (hd4 : [d4] ∈ gC) {R : sm_S} : ∀ (pc : Nat) (ls st : List Value) (D' : sm_D) (M : sm_M) (v : (Int32 × Int32 × Int32 × sm_M) ⊕ sm_S), (lf118_100 d0 d1 d2 d3 d4) pc ls st D' M = some v → (gd118_100 d0 d1 d2 d3 d4 R) v → sm_WJ smT smCl smSa shC f118 2 pc ls st D' M R := by
  intro pc ls st D' M v h hv
  unfold lf118_100 at h
  split at h
  · rename_i hp0
    subst hp0
    split at h
    · skip
      replace h := sm_dq_inv h
      obtain ⟨he, h⟩ := h
      subst he
      cases h
      exact hv _ _ _
    · cases h
  · skip
    split at h
    · rename_i hp0
      subst hp0
      split at h
      · skip
        replace h := sm_dq_inv h
        obtain ⟨he, h⟩ := h
        subst he
        replace h := sm_inr_inv h
        obtain ⟨r, h, he⟩ := h
        subst he
        have hv : r = R := hv
        subst hv
        exact w118_135 _ _ _ _ _ hd4 h
      · cases h
    · skip
      cases h
set_option maxRecDepth 20000 in
set_option maxHeartbeats 4000000 in
theorem wc118_100 (d0 d1 d2 d3 d4 : Nat) (hd4 : [d4] ∈ gC) {l3 l5 l6 : Int32} {g1 g2 g4 : Value} {M : sm_M} {R : sm_S} {v : (Int32 × Int32 × Int32 × sm_M) ⊕ sm_S} (h : jW_writeVariable_100_c d0 d1 d2 d3 d4 l3 l5 l6 M = some v) (hv : (gd118_100 d0 d1 d2 d3 d4 R) v) : sm_WJ smT smCl smSa shC f118 2 100 [.ref 24, g1, g2, .int l3, g4, .int l5, .int l6] [] [d0, d1, d2, d3, d4] M R := by
  rcases gC_inv hd4 with rfl | rfl
  · have e : jW_writeVariable_100_c d0 d1 d2 d3 40 l3 l5 l6 M = (sm_run shC smSa cal118 c118 false (fun a D M => some (.inr (a, D, M))) (lf118_100 d0 d1 d2 d3 40) 88 (c118.drop 56) [.ref 24, g1, g2, .int l3, g4, .int l5, .int l6] [] [d0, d1, d2, d3, 40] M : Option ((Int32 × Int32 × Int32 × sm_M) ⊕ sm_S)) := rfl
    exact sm_blk (ρ := (Int32 × Int32 × Int32 × sm_M) ⊕ sm_S) (gd := (gd118_100 d0 d1 d2 d3 40 R)) (kx := 118) (i := 56) smVC rfl (by decide) ck118 (fun a D M v e1 e2 => by cases e1; exact e2.symm) (ll118_100 d0 d1 d2 d3 40 (by decide)) rfl (e.symm.trans h) hv
  · have e : jW_writeVariable_100_c d0 d1 d2 d3 50 l3 l5 l6 M = (sm_run shC smSa cal118 c118 false (fun a D M => some (.inr (a, D, M))) (lf118_100 d0 d1 d2 d3 50) 88 (c118.drop 56) [.ref 24, g1, g2, .int l3, g4, .int l5, .int l6] [] [d0, d1, d2, d3, 50] M : Option ((Int32 × Int32 × Int32 × sm_M) ⊕ sm_S)) := rfl
    exact sm_blk (ρ := (Int32 × Int32 × Int32 × sm_M) ⊕ sm_S) (gd := (gd118_100 d0 d1 d2 d3 50 R)) (kx := 118) (i := 56) smVC rfl (by decide) ck118 (fun a D M v e1 e2 => by cases e1; exact e2.symm) (ll118_100 d0 d1 d2 d3 50 (by decide)) rfl (e.symm.trans h) hv
theorem w118_100 (d0 d1 d2 d3 d4 : Nat) (hd4 : [d4] ∈ gC) {l3 l5 l6 : Int32} {g1 g2 g4 : Value} {M : sm_M} {R : sm_S} (h : jW_writeVariable_100 d0 d1 d2 d3 d4 l3 l5 l6 M = some R) : sm_WJ smT smCl smSa shC f118 2 100 [.ref 24, g1, g2, .int l3, g4, .int l5, .int l6] [] [d0, d1, d2, d3, d4] M R := by
  have hh : lh118_100 d0 d1 d2 d3 d4 R (l3, l5, l6, M) := by
    refine sm_lp_ind (b := jW_writeVariable_100_b d0 d1 d2 d3 d4) (r := R) (lh118_100 d0 d1 d2 d3 d4 R) ?_ h
    intro s v hb h1 h2
    obtain ⟨z0, z1, z2, M1⟩ := s
    have hv : gd118_100 d0 d1 d2 d3 d4 R v := by
      cases v with
      | inl s' => exact h1 s' rfl
      | inr r => exact h2 r rfl
    intro g1 g2 g4
    exact wc118_100 d0 d1 d2 d3 d4 hd4 hb hv
  exact hh _ _ _
noncomputable def lf118_67 (d0 d1 d2 d3 d4 : Nat) : Nat → List Value → List Value → sm_D → sm_M → Option (sm_S) := fun pc ls st D' M =>
  if pc = 100 then (match ls, st with
    | [.ref 24, gl1, gl2, .int bl3, gl4, .int bl5, .int bl6], [] => (sm_dq D' [d0, d1, d2, d3, d4] (jW_writeVariable_100 d0 d1 d2 d3 d4 bl3 bl5 bl6 M))
    | _, _ => none)
  else if pc = 135 then (match ls, st with
    | [.ref 24, gl1, gl2, .int bl3, gl4, gl5, gl6], [] => (sm_dq D' [d0, d1, d2, d3, d4] (jW_writeVariable_135 d0 d1 d2 d3 d4 bl3 M))
    | _, _ => none)
  else none
theorem ll118_67 (d0 d1 d2 d3 d4 : Nat) (hd4 : [d4] ∈ gC) {R : sm_S} : ∀ (pc : Nat) (ls st : List Value) (D' : sm_D) (M : sm_M) (v : sm_S), (lf118_67 d0 d1 d2 d3 d4) pc ls st D' M = some v → (fun v => v = R) v → sm_WJ smT smCl smSa shC f118 2 pc ls st D' M R := by
  intro pc ls st D' M v h hv
  unfold lf118_67 at h
  split at h
  · rename_i hp0
    subst hp0
    split at h
    · skip
      replace h := sm_dq_inv h
      obtain ⟨he, h⟩ := h
      subst he
      have hv : v = R := hv
      subst hv
      exact w118_100 _ _ _ _ _ hd4 h
    · cases h
  · skip
    split at h
    · rename_i hp0
      subst hp0
      split at h
      · skip
        replace h := sm_dq_inv h
        obtain ⟨he, h⟩ := h
        subst he
        have hv : v = R := hv
        subst hv
        exact w118_135 _ _ _ _ _ hd4 h
      · cases h
    · skip
      cases h
set_option maxRecDepth 20000 in
set_option maxHeartbeats 4000000 in
theorem w118_67 (d0 d1 d2 d3 d4 : Nat) (hd4 : [d4] ∈ gC) {l3 l5 : Int32} {g1 g2 g4 g6 : Value} {M : sm_M} {R : sm_S} (h : jW_writeVariable_67 d0 d1 d2 d3 d4 l3 l5 M = some R) : sm_WJ smT smCl smSa shC f118 2 67 [.ref 24, g1, g2, .int l3, g4, .int l5, g6] [] [d0, d1, d2, d3, d4] M R := by
  rcases gC_inv hd4 with rfl | rfl
  · have e : jW_writeVariable_67 d0 d1 d2 d3 40 l3 l5 M = (sm_run shC smSa cal118 c118 false (fun a D M => some (a, D, M)) (lf118_67 d0 d1 d2 d3 40) 88 (c118.drop 37) [.ref 24, g1, g2, .int l3, g4, .int l5, g6] [] [d0, d1, d2, d3, 40] M : Option (sm_S)) := rfl
    exact sm_blk (ρ := sm_S) (gd := (fun v => v = R)) (kx := 118) (i := 37) smVC rfl (by decide) ck118 (fun a D M v e1 e2 => by cases e1; exact e2.symm) (ll118_67 d0 d1 d2 d3 40 (by decide)) rfl (e.symm.trans h) rfl
  · have e : jW_writeVariable_67 d0 d1 d2 d3 50 l3 l5 M = (sm_run shC smSa cal118 c118 false (fun a D M => some (a, D, M)) (lf118_67 d0 d1 d2 d3 50) 88 (c118.drop 37) [.ref 24, g1, g2, .int l3, g4, .int l5, g6] [] [d0, d1, d2, d3, 50] M : Option (sm_S)) := rfl
    exact sm_blk (ρ := sm_S) (gd := (fun v => v = R)) (kx := 118) (i := 37) smVC rfl (by decide) ck118 (fun a D M v e1 e2 => by cases e1; exact e2.symm) (ll118_67 d0 d1 d2 d3 50 (by decide)) rfl (e.symm.trans h) rfl
noncomputable def lf118_8 (d0 d1 d2 d3 d4 : Nat) : Nat → List Value → List Value → sm_D → sm_M → Option ((Int32 × Int32 × Int32 × sm_M) ⊕ sm_S) := fun pc ls st D' M =>
  if pc = 35 then (match ls, st with
    | [.ref 24, gl1, gl2, .int bl3, .int bl4, .int bl5, gl6], [] => (sm_dq D' [d0, d1, d2, d3, d4] (jW_writeVariable_35 d0 d1 d2 d3 d4 bl3 bl4 bl5 M))
    | _, _ => none)
  else if pc = 67 then (match ls, st with
    | [.ref 24, gl1, gl2, .int bl3, gl4, .int bl5, gl6], [] => (sm_dq D' [d0, d1, d2, d3, d4] (sm_inr (jW_writeVariable_67 d0 d1 d2 d3 d4 bl3 bl5 M)))
    | _, _ => none)
  else none
theorem ll118_8 (d0 d1 d2 d3 d4 : Nat) (hd4 : [d4] ∈ gC) {R : sm_S} : ∀ (pc : Nat) (ls st : List Value) (D' : sm_D) (M : sm_M) (v : (Int32 × Int32 × Int32 × sm_M) ⊕ sm_S), (lf118_8 d0 d1 d2 d3 d4) pc ls st D' M = some v → (gd118_8 d0 d1 d2 d3 d4 R) v → sm_WJ smT smCl smSa shC f118 2 pc ls st D' M R := by
  intro pc ls st D' M v h hv
  unfold lf118_8 at h
  split at h
  · rename_i hp0
    subst hp0
    split at h
    · skip
      replace h := sm_dq_inv h
      obtain ⟨he, h⟩ := h
      subst he
      exact w118_35 _ _ _ _ _ hd4 h hv
    · cases h
  · skip
    split at h
    · rename_i hp0
      subst hp0
      split at h
      · skip
        replace h := sm_dq_inv h
        obtain ⟨he, h⟩ := h
        subst he
        replace h := sm_inr_inv h
        obtain ⟨r, h, he⟩ := h
        subst he
        have hv : r = R := hv
        subst hv
        exact w118_67 _ _ _ _ _ hd4 h
      · cases h
    · skip
      cases h
set_option maxRecDepth 20000 in
set_option maxHeartbeats 4000000 in
theorem wc118_8 (d0 d1 d2 d3 d4 : Nat) (hd4 : [d4] ∈ gC) {l3 l4 l5 : Int32} {g1 g2 g6 : Value} {M : sm_M} {R : sm_S} {v : (Int32 × Int32 × Int32 × sm_M) ⊕ sm_S} (h : jW_writeVariable_8_c d0 d1 d2 d3 d4 l3 l4 l5 M = some v) (hv : (gd118_8 d0 d1 d2 d3 d4 R) v) : sm_WJ smT smCl smSa shC f118 2 8 [.ref 24, g1, g2, .int l3, .int l4, .int l5, g6] [] [d0, d1, d2, d3, d4] M R := by
  rcases gC_inv hd4 with rfl | rfl
  · have e : jW_writeVariable_8_c d0 d1 d2 d3 40 l3 l4 l5 M = (sm_run shC smSa cal118 c118 false (fun a D M => some (.inr (a, D, M))) (lf118_8 d0 d1 d2 d3 40) 88 (c118.drop 6) [.ref 24, g1, g2, .int l3, .int l4, .int l5, g6] [] [d0, d1, d2, d3, 40] M : Option ((Int32 × Int32 × Int32 × sm_M) ⊕ sm_S)) := rfl
    exact sm_blk (ρ := (Int32 × Int32 × Int32 × sm_M) ⊕ sm_S) (gd := (gd118_8 d0 d1 d2 d3 40 R)) (kx := 118) (i := 6) smVC rfl (by decide) ck118 (fun a D M v e1 e2 => by cases e1; exact e2.symm) (ll118_8 d0 d1 d2 d3 40 (by decide)) rfl (e.symm.trans h) hv
  · have e : jW_writeVariable_8_c d0 d1 d2 d3 50 l3 l4 l5 M = (sm_run shC smSa cal118 c118 false (fun a D M => some (.inr (a, D, M))) (lf118_8 d0 d1 d2 d3 50) 88 (c118.drop 6) [.ref 24, g1, g2, .int l3, .int l4, .int l5, g6] [] [d0, d1, d2, d3, 50] M : Option ((Int32 × Int32 × Int32 × sm_M) ⊕ sm_S)) := rfl
    exact sm_blk (ρ := (Int32 × Int32 × Int32 × sm_M) ⊕ sm_S) (gd := (gd118_8 d0 d1 d2 d3 50 R)) (kx := 118) (i := 6) smVC rfl (by decide) ck118 (fun a D M v e1 e2 => by cases e1; exact e2.symm) (ll118_8 d0 d1 d2 d3 50 (by decide)) rfl (e.symm.trans h) hv
theorem w118_8 (d0 d1 d2 d3 d4 : Nat) (hd4 : [d4] ∈ gC) {l3 l4 l5 : Int32} {g1 g2 g6 : Value} {M : sm_M} {R : sm_S} (h : jW_writeVariable_8 d0 d1 d2 d3 d4 l3 l4 l5 M = some R) : sm_WJ smT smCl smSa shC f118 2 8 [.ref 24, g1, g2, .int l3, .int l4, .int l5, g6] [] [d0, d1, d2, d3, d4] M R := by
  have hh : lh118_8 d0 d1 d2 d3 d4 R (l3, l4, l5, M) := by
    refine sm_lp_ind (b := jW_writeVariable_8_b d0 d1 d2 d3 d4) (r := R) (lh118_8 d0 d1 d2 d3 d4 R) ?_ h
    intro s v hb h1 h2
    obtain ⟨z0, z1, z2, M1⟩ := s
    have hv : gd118_8 d0 d1 d2 d3 d4 R v := by
      cases v with
      | inl s' => exact h1 s' rfl
      | inr r => exact h2 r rfl
    intro g1 g2 g6
    exact wc118_8 d0 d1 d2 d3 d4 hd4 hb hv
  exact hh _ _ _
noncomputable def lf118_0 (d0 d1 d2 d3 d4 : Nat) : Nat → List Value → List Value → sm_D → sm_M → Option (sm_S) := fun pc ls st D' M =>
  if pc = 8 then (match ls, st with
    | [.ref 24, gl1, gl2, .int bl3, .int bl4, .int bl5, gl6], [] => (sm_dq D' [d0, d1, d2, d3, d4] (jW_writeVariable_8 d0 d1 d2 d3 d4 bl3 bl4 bl5 M))
    | _, _ => none)
  else none
theorem ll118_0 (d0 d1 d2 d3 d4 : Nat) (hd4 : [d4] ∈ gC) {R : sm_S} : ∀ (pc : Nat) (ls st : List Value) (D' : sm_D) (M : sm_M) (v : sm_S), (lf118_0 d0 d1 d2 d3 d4) pc ls st D' M = some v → (fun v => v = R) v → sm_WJ smT smCl smSa shC f118 2 pc ls st D' M R := by
  intro pc ls st D' M v h hv
  unfold lf118_0 at h
  split at h
  · rename_i hp0
    subst hp0
    split at h
    · skip
      replace h := sm_dq_inv h
      obtain ⟨he, h⟩ := h
      subst he
      have hv : v = R := hv
      subst hv
      exact w118_8 _ _ _ _ _ hd4 h
    · cases h
  · skip
    cases h
set_option maxRecDepth 20000 in
set_option maxHeartbeats 4000000 in
theorem we118 (d0 d1 d2 d3 d4 : Nat) (hd4 : [d4] ∈ gC) {l1 l2 : Int32} {M : sm_M} {R : sm_S} (h : jW_writeVariable d0 d1 d2 d3 d4 l1 l2 M = some R) : sm_WJ smT smCl smSa shC f118 2 0 [.ref 24, .int l1, .int l2, .retAddr 0, .retAddr 0, .retAddr 0, .retAddr 0] [] [d0, d1, d2, d3, d4] M R := by
  rcases gC_inv hd4 with rfl | rfl
  · have e : jW_writeVariable d0 d1 d2 d3 40 l1 l2 M = (sm_run shC smSa cal118 c118 false (fun a D M => some (a, D, M)) (lf118_0 d0 d1 d2 d3 40) 88 (c118.drop 0) [.ref 24, .int l1, .int l2, .retAddr 0, .retAddr 0, .retAddr 0, .retAddr 0] [] [d0, d1, d2, d3, 40] M : Option (sm_S)) := rfl
    exact sm_blk (ρ := sm_S) (gd := (fun v => v = R)) (kx := 118) (i := 0) smVC rfl (by decide) ck118 (fun a D M v e1 e2 => by cases e1; exact e2.symm) (ll118_0 d0 d1 d2 d3 40 (by decide)) rfl (e.symm.trans h) rfl
  · have e : jW_writeVariable d0 d1 d2 d3 50 l1 l2 M = (sm_run shC smSa cal118 c118 false (fun a D M => some (a, D, M)) (lf118_0 d0 d1 d2 d3 50) 88 (c118.drop 0) [.ref 24, .int l1, .int l2, .retAddr 0, .retAddr 0, .retAddr 0, .retAddr 0] [] [d0, d1, d2, d3, 50] M : Option (sm_S)) := rfl
    exact sm_blk (ρ := sm_S) (gd := (fun v => v = R)) (kx := 118) (i := 0) smVC rfl (by decide) ck118 (fun a D M v e1 e2 => by cases e1; exact e2.symm) (ll118_0 d0 d1 d2 d3 50 (by decide)) rfl (e.symm.trans h) rfl
theorem m118 {d0 d1 d2 d3 d4 : Nat} (hd4 : [d4] ∈ gC) {l1 l2 : Int32} {M : sm_M} {R : sm_S} (h : jW_writeVariable d0 d1 d2 d3 d4 l1 l2 M = some R) : sm_MJ smT smCl smSa shC f118 2 [.ref 24, .int l1, .int l2] [d0, d1, d2, d3, d4] M R :=
  sm_met (by decide) (Nat.le_of_ble_eq_true rfl) (List.all_eq_true.mp rfl) (we118 d0 d1 d2 d3 d4 hd4 h)

-- jW_writeChoice
noncomputable def cal122 (rec : Nat → Nat → Nat → Nat → Nat → Int32 → Int32 → sm_M → Option sm_S) : sm_Cal := fun x as D M =>
  if x = 117 then (match as, D with
    | [.ref 24, .int a1, .int a2], [e0, e1, e2, e3, e4] => (sm_ga [e4] gC (rec e0 e1 e2 e3 e4 a1 a2 M))
    | _, _ => none)
  else if x = 108 then (match as with
    | [.ref q0] => (sm_ga [q0] gC (jC_reserve q0 D M))
    | _ => none)
  else if x = 113 then (match as with
    | [.ref q0, .int a1, .int a2, .int a3, .int a4] => (sm_ga [q0] gC (jC_put q0 a1 a2 a3 a4 D M))
    | _ => none)
  else if x = 109 then (match as with
    | [.ref q0, .int a1, .int a2, .int a3, .int a4] => (sm_ga [q0] gC (jC_open q0 a1 a2 a3 a4 D M))
    | _ => none)
  else none
theorem ck122 (rec : Nat → Nat → Nat → Nat → Nat → Int32 → Int32 → sm_M → Option sm_S) (dr : Nat) (hrec : ∀ (d0 d1 d2 d3 d4 : Nat) (l1 l2 : Int32) (M : sm_M) (R : sm_S), [d4] ∈ gC → rec d0 d1 d2 d3 d4 l1 l2 M = some R → sm_MJ smT smCl smSa shC f117 dr [.ref 24, .int l1, .int l2] [d0, d1, d2, d3, d4] M R) : sm_CalOk smT smCl smP smSa shC (dr + 3) (cal122 rec) := by
  intro x g as D M R hx h
  unfold cal122 at h
  split at h
  · rename_i hx'
    subst hx'
    cases (show smP[117]? = some f117 from rfl).symm.trans hx
    split at h
    · replace h := sm_ga_inv h
      obtain ⟨h1, h⟩ := h
      exact Or.inl ⟨dr, by omega, hrec _ _ _ _ _ _ _ _ _ h1 h⟩
    · cases h
  · skip
    split at h
    · rename_i hx'
      subst hx'
      cases (show smP[108]? = some f108 from rfl).symm.trans hx
      split at h
      · replace h := sm_ga_inv h
        obtain ⟨h1, h⟩ := h
        exact Or.inl ⟨0, by omega, m108  h1 h⟩
      · cases h
    · skip
      split at h
      · rename_i hx'
        subst hx'
        cases (show smP[113]? = some f113 from rfl).symm.trans hx
        split at h
        · replace h := sm_ga_inv h
          obtain ⟨h1, h⟩ := h
          exact Or.inl ⟨1, by omega, m113  h1 h⟩
        · cases h
      · skip
        split at h
        · rename_i hx'
          subst hx'
          cases (show smP[109]? = some f109 from rfl).symm.trans hx
          split at h
          · replace h := sm_ga_inv h
            obtain ⟨h1, h⟩ := h
            exact Or.inl ⟨2, by omega, m109  h1 h⟩
          · cases h
        · skip
          cases h
set_option maxRecDepth 20000 in
set_option maxHeartbeats 4000000 in
theorem we122 (rec : Nat → Nat → Nat → Nat → Nat → Int32 → Int32 → sm_M → Option sm_S) (dr : Nat) (hrec : ∀ (d0 d1 d2 d3 d4 : Nat) (l1 l2 : Int32) (M : sm_M) (R : sm_S), [d4] ∈ gC → rec d0 d1 d2 d3 d4 l1 l2 M = some R → sm_MJ smT smCl smSa shC f117 dr [.ref 24, .int l1, .int l2] [d0, d1, d2, d3, d4] M R) (d0 d1 d2 d3 d4 : Nat) (hd4 : [d4] ∈ gC) {l1 l2 : Int32} {M : sm_M} {R : sm_S} (h : jW_writeChoice rec d0 d1 d2 d3 d4 l1 l2 M = some R) : sm_WJ smT smCl smSa shC f122 (dr + 3) 0 [.ref 24, .int l1, .int l2, .retAddr 0, .retAddr 0, .retAddr 0, .retAddr 0] [] [d0, d1, d2, d3, d4] M R := by
  rcases gC_inv hd4 with rfl | rfl
  · have e : jW_writeChoice rec d0 d1 d2 d3 40 l1 l2 M = (sm_run shC smSa (cal122 rec) c122 false (fun a D M => some (a, D, M)) sm_noleaf 82 (c122.drop 0) [.ref 24, .int l1, .int l2, .retAddr 0, .retAddr 0, .retAddr 0, .retAddr 0] [] [d0, d1, d2, d3, 40] M : Option (sm_S)) := rfl
    exact sm_blk (ρ := sm_S) (gd := (fun v => v = R)) (kx := 122) (i := 0) smVC rfl (by decide) (ck122 rec dr hrec) (fun a D M v e1 e2 => by cases e1; exact e2.symm) (sm_noleaf_ok) rfl (e.symm.trans h) rfl
  · have e : jW_writeChoice rec d0 d1 d2 d3 50 l1 l2 M = (sm_run shC smSa (cal122 rec) c122 false (fun a D M => some (a, D, M)) sm_noleaf 82 (c122.drop 0) [.ref 24, .int l1, .int l2, .retAddr 0, .retAddr 0, .retAddr 0, .retAddr 0] [] [d0, d1, d2, d3, 50] M : Option (sm_S)) := rfl
    exact sm_blk (ρ := sm_S) (gd := (fun v => v = R)) (kx := 122) (i := 0) smVC rfl (by decide) (ck122 rec dr hrec) (fun a D M v e1 e2 => by cases e1; exact e2.symm) (sm_noleaf_ok) rfl (e.symm.trans h) rfl
theorem m122 (rec : Nat → Nat → Nat → Nat → Nat → Int32 → Int32 → sm_M → Option sm_S) (dr : Nat) (hrec : ∀ (d0 d1 d2 d3 d4 : Nat) (l1 l2 : Int32) (M : sm_M) (R : sm_S), [d4] ∈ gC → rec d0 d1 d2 d3 d4 l1 l2 M = some R → sm_MJ smT smCl smSa shC f117 dr [.ref 24, .int l1, .int l2] [d0, d1, d2, d3, d4] M R) {d0 d1 d2 d3 d4 : Nat} (hd4 : [d4] ∈ gC) {l1 l2 : Int32} {M : sm_M} {R : sm_S} (h : jW_writeChoice rec d0 d1 d2 d3 d4 l1 l2 M = some R) : sm_MJ smT smCl smSa shC f122 (dr + 3) [.ref 24, .int l1, .int l2] [d0, d1, d2, d3, d4] M R :=
  sm_met (by decide) (Nat.le_of_ble_eq_true rfl) (List.all_eq_true.mp rfl) (we122 rec dr hrec d0 d1 d2 d3 d4 hd4 h)

-- jW_writeLambda
noncomputable def cal123  : sm_Cal := fun x as D M =>
  if x = 108 then (match as with
    | [.ref q0] => (sm_ga [q0] gC (jC_reserve q0 D M))
    | _ => none)
  else if x = 113 then (match as with
    | [.ref q0, .int a1, .int a2, .int a3, .int a4] => (sm_ga [q0] gC (jC_put q0 a1 a2 a3 a4 D M))
    | _ => none)
  else none
theorem ck123  : sm_CalOk smT smCl smP smSa shC 2 cal123 := by
  intro x g as D M R hx h
  unfold cal123 at h
  split at h
  · rename_i hx'
    subst hx'
    cases (show smP[108]? = some f108 from rfl).symm.trans hx
    split at h
    · replace h := sm_ga_inv h
      obtain ⟨h1, h⟩ := h
      exact Or.inl ⟨0, by omega, m108  h1 h⟩
    · cases h
  · skip
    split at h
    · rename_i hx'
      subst hx'
      cases (show smP[113]? = some f113 from rfl).symm.trans hx
      split at h
      · replace h := sm_ga_inv h
        obtain ⟨h1, h⟩ := h
        exact Or.inl ⟨1, by omega, m113  h1 h⟩
      · cases h
    · skip
      cases h
set_option maxRecDepth 20000 in
set_option maxHeartbeats 4000000 in
theorem w123_58 (d0 d1 d2 d3 d4 : Nat) (hd4 : [d4] ∈ gC) {l1 l3 : Int32} {g2 : Value} {M : sm_M} {R : sm_S} (h : jW_writeLambda_58 d0 d1 d2 d3 d4 l1 l3 M = some R) : sm_WJ smT smCl smSa shC f123 2 58 [.ref 24, .int l1, g2, .int l3] [] [d0, d1, d2, d3, d4] M R := by
  rcases gC_inv hd4 with rfl | rfl
  · have e : jW_writeLambda_58 d0 d1 d2 d3 40 l1 l3 M = (sm_run shC smSa cal123 c123 false (fun a D M => some (a, D, M)) sm_noleaf 68 (c123.drop 32) [.ref 24, .int l1, g2, .int l3] [] [d0, d1, d2, d3, 40] M : Option (sm_S)) := rfl
    exact sm_blk (ρ := sm_S) (gd := (fun v => v = R)) (kx := 123) (i := 32) smVC rfl (by decide) ck123 (fun a D M v e1 e2 => by cases e1; exact e2.symm) (sm_noleaf_ok) rfl (e.symm.trans h) rfl
  · have e : jW_writeLambda_58 d0 d1 d2 d3 50 l1 l3 M = (sm_run shC smSa cal123 c123 false (fun a D M => some (a, D, M)) sm_noleaf 68 (c123.drop 32) [.ref 24, .int l1, g2, .int l3] [] [d0, d1, d2, d3, 50] M : Option (sm_S)) := rfl
    exact sm_blk (ρ := sm_S) (gd := (fun v => v = R)) (kx := 123) (i := 32) smVC rfl (by decide) ck123 (fun a D M v e1 e2 => by cases e1; exact e2.symm) (sm_noleaf_ok) rfl (e.symm.trans h) rfl
noncomputable def lf123_0 (d0 d1 d2 d3 d4 : Nat) : Nat → List Value → List Value → sm_D → sm_M → Option (sm_S) := fun pc ls st D' M =>
  if pc = 58 then (match ls, st with
    | [.ref 24, .int bl1, gl2, .int bl3], [] => (sm_dq D' [d0, d1, d2, d3, d4] (jW_writeLambda_58 d0 d1 d2 d3 d4 bl1 bl3 M))
    | _, _ => none)
  else none
theorem ll123_0 (d0 d1 d2 d3 d4 : Nat) (hd4 : [d4] ∈ gC) {R : sm_S} : ∀ (pc : Nat) (ls st : List Value) (D' : sm_D) (M : sm_M) (v : sm_S), (lf123_0 d0 d1 d2 d3 d4) pc ls st D' M = some v → (fun v => v = R) v → sm_WJ smT smCl smSa shC f123 2 pc ls st D' M R := by
  intro pc ls st D' M v h hv
  unfold lf123_0 at h
  split at h
  · rename_i hp0
    subst hp0
    split at h
    · skip
      replace h := sm_dq_inv h
      obtain ⟨he, h⟩ := h
      subst he
      have hv : v = R := hv
      subst hv
      exact w123_58 _ _ _ _ _ hd4 h
    · cases h
  · skip
    cases h
set_option maxRecDepth 20000 in
set_option maxHeartbeats 4000000 in
theorem we123 (d0 d1 d2 d3 d4 : Nat) (hd4 : [d4] ∈ gC) {l1 l2 : Int32} {M : sm_M} {R : sm_S} (h : jW_writeLambda d0 d1 d2 d3 d4 l1 l2 M = some R) : sm_WJ smT smCl smSa shC f123 2 0 [.ref 24, .int l1, .int l2, .retAddr 0] [] [d0, d1, d2, d3, d4] M R := by
  rcases gC_inv hd4 with rfl | rfl
  · have e : jW_writeLambda d0 d1 d2 d3 40 l1 l2 M = (sm_run shC smSa cal123 c123 false (fun a D M => some (a, D, M)) (lf123_0 d0 d1 d2 d3 40) 68 (c123.drop 0) [.ref 24, .int l1, .int l2, .retAddr 0] [] [d0, d1, d2, d3, 40] M : Option (sm_S)) := rfl
    exact sm_blk (ρ := sm_S) (gd := (fun v => v = R)) (kx := 123) (i := 0) smVC rfl (by decide) ck123 (fun a D M v e1 e2 => by cases e1; exact e2.symm) (ll123_0 d0 d1 d2 d3 40 (by decide)) rfl (e.symm.trans h) rfl
  · have e : jW_writeLambda d0 d1 d2 d3 50 l1 l2 M = (sm_run shC smSa cal123 c123 false (fun a D M => some (a, D, M)) (lf123_0 d0 d1 d2 d3 50) 68 (c123.drop 0) [.ref 24, .int l1, .int l2, .retAddr 0] [] [d0, d1, d2, d3, 50] M : Option (sm_S)) := rfl
    exact sm_blk (ρ := sm_S) (gd := (fun v => v = R)) (kx := 123) (i := 0) smVC rfl (by decide) ck123 (fun a D M v e1 e2 => by cases e1; exact e2.symm) (ll123_0 d0 d1 d2 d3 50 (by decide)) rfl (e.symm.trans h) rfl
theorem m123 {d0 d1 d2 d3 d4 : Nat} (hd4 : [d4] ∈ gC) {l1 l2 : Int32} {M : sm_M} {R : sm_S} (h : jW_writeLambda d0 d1 d2 d3 d4 l1 l2 M = some R) : sm_MJ smT smCl smSa shC f123 2 [.ref 24, .int l1, .int l2] [d0, d1, d2, d3, d4] M R :=
  sm_met (by decide) (Nat.le_of_ble_eq_true rfl) (List.all_eq_true.mp rfl) (we123 d0 d1 d2 d3 d4 hd4 h)

-- jW_extend
noncomputable def cal126  : sm_Cal := fun x as D M =>
  if x = 159 then (match as with
    | [.ref 1, .int a1, .int a2, .int a3, .int a4] => (jT_find a1 a2 a3 a4 D M)
    | _ => none)
  else none
theorem ck126  : sm_CalOk smT smCl smP smSa shC 2 cal126 := by
  intro x g as D M R hx h
  unfold cal126 at h
  split at h
  · rename_i hx'
    subst hx'
    cases (show smP[159]? = some f159 from rfl).symm.trans hx
    split at h
    · skip
      exact Or.inl ⟨1, by omega, m159   h⟩
    · cases h
  · skip
    cases h
set_option maxRecDepth 20000 in
set_option maxHeartbeats 4000000 in
theorem w126_20 (d0 d1 d2 d3 d4 : Nat) (hd4 : [d4] ∈ gC) {l1 : Int32} {g0 g2 g3 : Value} {M : sm_M} {R : sm_S} (h : jW_extend_20 d0 d1 d2 d3 d4 l1 M = some R) : sm_WJ smT smCl smSa shC f126 2 20 [g0, .int l1, g2, g3] [] [d0, d1, d2, d3, d4] M R := by
  rcases gC_inv hd4 with rfl | rfl
  · have e : jW_extend_20 d0 d1 d2 d3 40 l1 M = (sm_run shC smSa cal126 c126 false (fun a D M => some (a, D, M)) sm_noleaf 53 (c126.drop 8) [g0, .int l1, g2, g3] [] [d0, d1, d2, d3, 40] M : Option (sm_S)) := rfl
    exact sm_blk (ρ := sm_S) (gd := (fun v => v = R)) (kx := 126) (i := 8) smVC rfl (by decide) ck126 (fun a D M v e1 e2 => by cases e1; exact e2.symm) (sm_noleaf_ok) rfl (e.symm.trans h) rfl
  · have e : jW_extend_20 d0 d1 d2 d3 50 l1 M = (sm_run shC smSa cal126 c126 false (fun a D M => some (a, D, M)) sm_noleaf 53 (c126.drop 8) [g0, .int l1, g2, g3] [] [d0, d1, d2, d3, 50] M : Option (sm_S)) := rfl
    exact sm_blk (ρ := sm_S) (gd := (fun v => v = R)) (kx := 126) (i := 8) smVC rfl (by decide) ck126 (fun a D M v e1 e2 => by cases e1; exact e2.symm) (sm_noleaf_ok) rfl (e.symm.trans h) rfl
noncomputable def lf126_0 (d0 d1 d2 d3 d4 : Nat) : Nat → List Value → List Value → sm_D → sm_M → Option (sm_S) := fun pc ls st D' M =>
  if pc = 20 then (match ls, st with
    | [gl0, .int bl1, gl2, gl3], [] => (sm_dq D' [d0, d1, d2, d3, d4] (jW_extend_20 d0 d1 d2 d3 d4 bl1 M))
    | _, _ => none)
  else none
theorem ll126_0 (d0 d1 d2 d3 d4 : Nat) (hd4 : [d4] ∈ gC) {R : sm_S} : ∀ (pc : Nat) (ls st : List Value) (D' : sm_D) (M : sm_M) (v : sm_S), (lf126_0 d0 d1 d2 d3 d4) pc ls st D' M = some v → (fun v => v = R) v → sm_WJ smT smCl smSa shC f126 2 pc ls st D' M R := by
  intro pc ls st D' M v h hv
  unfold lf126_0 at h
  split at h
  · rename_i hp0
    subst hp0
    split at h
    · skip
      replace h := sm_dq_inv h
      obtain ⟨he, h⟩ := h
      subst he
      have hv : v = R := hv
      subst hv
      exact w126_20 _ _ _ _ _ hd4 h
    · cases h
  · skip
    cases h
set_option maxRecDepth 20000 in
set_option maxHeartbeats 4000000 in
theorem we126 (d0 d1 d2 d3 d4 : Nat) (hd4 : [d4] ∈ gC) {l1 l2 l3 : Int32} {M : sm_M} {R : sm_S} (h : jW_extend d0 d1 d2 d3 d4 l1 l2 l3 M = some R) : sm_WJ smT smCl smSa shC f126 2 0 [.ref 24, .int l1, .int l2, .int l3] [] [d0, d1, d2, d3, d4] M R := by
  rcases gC_inv hd4 with rfl | rfl
  · have e : jW_extend d0 d1 d2 d3 40 l1 l2 l3 M = (sm_run shC smSa cal126 c126 false (fun a D M => some (a, D, M)) (lf126_0 d0 d1 d2 d3 40) 53 (c126.drop 0) [.ref 24, .int l1, .int l2, .int l3] [] [d0, d1, d2, d3, 40] M : Option (sm_S)) := rfl
    exact sm_blk (ρ := sm_S) (gd := (fun v => v = R)) (kx := 126) (i := 0) smVC rfl (by decide) ck126 (fun a D M v e1 e2 => by cases e1; exact e2.symm) (ll126_0 d0 d1 d2 d3 40 (by decide)) rfl (e.symm.trans h) rfl
  · have e : jW_extend d0 d1 d2 d3 50 l1 l2 l3 M = (sm_run shC smSa cal126 c126 false (fun a D M => some (a, D, M)) (lf126_0 d0 d1 d2 d3 50) 53 (c126.drop 0) [.ref 24, .int l1, .int l2, .int l3] [] [d0, d1, d2, d3, 50] M : Option (sm_S)) := rfl
    exact sm_blk (ρ := sm_S) (gd := (fun v => v = R)) (kx := 126) (i := 0) smVC rfl (by decide) ck126 (fun a D M v e1 e2 => by cases e1; exact e2.symm) (ll126_0 d0 d1 d2 d3 50 (by decide)) rfl (e.symm.trans h) rfl
theorem m126 {d0 d1 d2 d3 d4 : Nat} (hd4 : [d4] ∈ gC) {l1 l2 l3 : Int32} {M : sm_M} {R : sm_S} (h : jW_extend d0 d1 d2 d3 d4 l1 l2 l3 M = some R) : sm_MJ smT smCl smSa shC f126 2 [.ref 24, .int l1, .int l2, .int l3] [d0, d1, d2, d3, d4] M R :=
  sm_met (by decide) (Nat.le_of_ble_eq_true rfl) (List.all_eq_true.mp rfl) (we126 d0 d1 d2 d3 d4 hd4 h)

-- jW_writeCall
noncomputable def cal125 (rec : Nat → Nat → Nat → Nat → Nat → Int32 → Int32 → sm_M → Option sm_S) : sm_Cal := fun x as D M =>
  if x = 117 then (match as, D with
    | [.ref 24, .int a1, .int a2], [e0, e1, e2, e3, e4] => (sm_ga [e4] gC (rec e0 e1 e2 e3 e4 a1 a2 M))
    | _, _ => none)
  else if x = 154 then (match as with
    | [.ref 1, .int a1] => (jT_secondOf a1 D M)
    | _ => none)
  else if x = 113 then (match as with
    | [.ref q0, .int a1, .int a2, .int a3, .int a4] => (sm_ga [q0] gC (jC_put q0 a1 a2 a3 a4 D M))
    | _ => none)
  else if x = 126 then (match as, D with
    | [.ref 24, .int a1, .int a2, .int a3], [e0, e1, e2, e3, e4] => (sm_ga [e4] gC (jW_extend e0 e1 e2 e3 e4 a1 a2 a3 M))
    | _, _ => none)
  else if x = 108 then (match as with
    | [.ref q0] => (sm_ga [q0] gC (jC_reserve q0 D M))
    | _ => none)
  else if x = 159 then (match as with
    | [.ref 1, .int a1, .int a2, .int a3, .int a4] => (jT_find a1 a2 a3 a4 D M)
    | _ => none)
  else if x = 109 then (match as with
    | [.ref q0, .int a1, .int a2, .int a3, .int a4] => (sm_ga [q0] gC (jC_open q0 a1 a2 a3 a4 D M))
    | _ => none)
  else none
theorem ck125 (rec : Nat → Nat → Nat → Nat → Nat → Int32 → Int32 → sm_M → Option sm_S) (dr : Nat) (hrec : ∀ (d0 d1 d2 d3 d4 : Nat) (l1 l2 : Int32) (M : sm_M) (R : sm_S), [d4] ∈ gC → rec d0 d1 d2 d3 d4 l1 l2 M = some R → sm_MJ smT smCl smSa shC f117 dr [.ref 24, .int l1, .int l2] [d0, d1, d2, d3, d4] M R) : sm_CalOk smT smCl smP smSa shC (dr + 3) (cal125 rec) := by
  intro x g as D M R hx h
  unfold cal125 at h
  split at h
  · rename_i hx'
    subst hx'
    cases (show smP[117]? = some f117 from rfl).symm.trans hx
    split at h
    · replace h := sm_ga_inv h
      obtain ⟨h1, h⟩ := h
      exact Or.inl ⟨dr, by omega, hrec _ _ _ _ _ _ _ _ _ h1 h⟩
    · cases h
  · skip
    split at h
    · rename_i hx'
      subst hx'
      cases (show smP[154]? = some f154 from rfl).symm.trans hx
      split at h
      · skip
        exact Or.inl ⟨1, by omega, m154   h⟩
      · cases h
    · skip
      split at h
      · rename_i hx'
        subst hx'
        cases (show smP[113]? = some f113 from rfl).symm.trans hx
        split at h
        · replace h := sm_ga_inv h
          obtain ⟨h1, h⟩ := h
          exact Or.inl ⟨1, by omega, m113  h1 h⟩
        · cases h
      · skip
        split at h
        · rename_i hx'
          subst hx'
          cases (show smP[126]? = some f126 from rfl).symm.trans hx
          split at h
          · replace h := sm_ga_inv h
            obtain ⟨h1, h⟩ := h
            exact Or.inl ⟨2, by omega, m126  h1 h⟩
          · cases h
        · skip
          split at h
          · rename_i hx'
            subst hx'
            cases (show smP[108]? = some f108 from rfl).symm.trans hx
            split at h
            · replace h := sm_ga_inv h
              obtain ⟨h1, h⟩ := h
              exact Or.inl ⟨0, by omega, m108  h1 h⟩
            · cases h
          · skip
            split at h
            · rename_i hx'
              subst hx'
              cases (show smP[159]? = some f159 from rfl).symm.trans hx
              split at h
              · skip
                exact Or.inl ⟨1, by omega, m159   h⟩
              · cases h
            · skip
              split at h
              · rename_i hx'
                subst hx'
                cases (show smP[109]? = some f109 from rfl).symm.trans hx
                split at h
                · replace h := sm_ga_inv h
                  obtain ⟨h1, h⟩ := h
                  exact Or.inl ⟨2, by omega, m109  h1 h⟩
                · cases h
              · skip
                cases h
set_option maxRecDepth 20000 in
set_option maxHeartbeats 4000000 in
theorem we125 (rec : Nat → Nat → Nat → Nat → Nat → Int32 → Int32 → sm_M → Option sm_S) (dr : Nat) (hrec : ∀ (d0 d1 d2 d3 d4 : Nat) (l1 l2 : Int32) (M : sm_M) (R : sm_S), [d4] ∈ gC → rec d0 d1 d2 d3 d4 l1 l2 M = some R → sm_MJ smT smCl smSa shC f117 dr [.ref 24, .int l1, .int l2] [d0, d1, d2, d3, d4] M R) (d0 d1 d2 d3 d4 : Nat) (hd4 : [d4] ∈ gC) {l1 l2 : Int32} {M : sm_M} {R : sm_S} (h : jW_writeCall rec d0 d1 d2 d3 d4 l1 l2 M = some R) : sm_WJ smT smCl smSa shC f125 (dr + 3) 0 [.ref 24, .int l1, .int l2, .retAddr 0, .retAddr 0, .retAddr 0] [] [d0, d1, d2, d3, d4] M R := by
  rcases gC_inv hd4 with rfl | rfl
  · have e : jW_writeCall rec d0 d1 d2 d3 40 l1 l2 M = (sm_run shC smSa (cal125 rec) c125 false (fun a D M => some (a, D, M)) sm_noleaf 110 (c125.drop 0) [.ref 24, .int l1, .int l2, .retAddr 0, .retAddr 0, .retAddr 0] [] [d0, d1, d2, d3, 40] M : Option (sm_S)) := rfl
    exact sm_blk (ρ := sm_S) (gd := (fun v => v = R)) (kx := 125) (i := 0) smVC rfl (by decide) (ck125 rec dr hrec) (fun a D M v e1 e2 => by cases e1; exact e2.symm) (sm_noleaf_ok) rfl (e.symm.trans h) rfl
  · have e : jW_writeCall rec d0 d1 d2 d3 50 l1 l2 M = (sm_run shC smSa (cal125 rec) c125 false (fun a D M => some (a, D, M)) sm_noleaf 110 (c125.drop 0) [.ref 24, .int l1, .int l2, .retAddr 0, .retAddr 0, .retAddr 0] [] [d0, d1, d2, d3, 50] M : Option (sm_S)) := rfl
    exact sm_blk (ρ := sm_S) (gd := (fun v => v = R)) (kx := 125) (i := 0) smVC rfl (by decide) (ck125 rec dr hrec) (fun a D M v e1 e2 => by cases e1; exact e2.symm) (sm_noleaf_ok) rfl (e.symm.trans h) rfl
theorem m125 (rec : Nat → Nat → Nat → Nat → Nat → Int32 → Int32 → sm_M → Option sm_S) (dr : Nat) (hrec : ∀ (d0 d1 d2 d3 d4 : Nat) (l1 l2 : Int32) (M : sm_M) (R : sm_S), [d4] ∈ gC → rec d0 d1 d2 d3 d4 l1 l2 M = some R → sm_MJ smT smCl smSa shC f117 dr [.ref 24, .int l1, .int l2] [d0, d1, d2, d3, d4] M R) {d0 d1 d2 d3 d4 : Nat} (hd4 : [d4] ∈ gC) {l1 l2 : Int32} {M : sm_M} {R : sm_S} (h : jW_writeCall rec d0 d1 d2 d3 d4 l1 l2 M = some R) : sm_MJ smT smCl smSa shC f125 (dr + 3) [.ref 24, .int l1, .int l2] [d0, d1, d2, d3, d4] M R :=
  sm_met (by decide) (Nat.le_of_ble_eq_true rfl) (List.all_eq_true.mp rfl) (we125 rec dr hrec d0 d1 d2 d3 d4 hd4 h)

-- jW_writePart
noncomputable def cal121 (rec : Nat → Nat → Nat → Nat → Nat → Int32 → Int32 → sm_M → Option sm_S) : sm_Cal := fun x as D M =>
  if x = 117 then (match as, D with
    | [.ref 24, .int a1, .int a2], [e0, e1, e2, e3, e4] => (sm_ga [e4] gC (rec e0 e1 e2 e3 e4 a1 a2 M))
    | _, _ => none)
  else if x = 113 then (match as with
    | [.ref q0, .int a1, .int a2, .int a3, .int a4] => (sm_ga [q0] gC (jC_put q0 a1 a2 a3 a4 D M))
    | _ => none)
  else if x = 153 then (match as with
    | [.ref 1, .int a1] => (jT_firstOf a1 D M)
    | _ => none)
  else if x = 154 then (match as with
    | [.ref 1, .int a1] => (jT_secondOf a1 D M)
    | _ => none)
  else none
theorem ck121 (rec : Nat → Nat → Nat → Nat → Nat → Int32 → Int32 → sm_M → Option sm_S) (dr : Nat) (hrec : ∀ (d0 d1 d2 d3 d4 : Nat) (l1 l2 : Int32) (M : sm_M) (R : sm_S), [d4] ∈ gC → rec d0 d1 d2 d3 d4 l1 l2 M = some R → sm_MJ smT smCl smSa shC f117 dr [.ref 24, .int l1, .int l2] [d0, d1, d2, d3, d4] M R) : sm_CalOk smT smCl smP smSa shC (dr + 2) (cal121 rec) := by
  intro x g as D M R hx h
  unfold cal121 at h
  split at h
  · rename_i hx'
    subst hx'
    cases (show smP[117]? = some f117 from rfl).symm.trans hx
    split at h
    · replace h := sm_ga_inv h
      obtain ⟨h1, h⟩ := h
      exact Or.inl ⟨dr, by omega, hrec _ _ _ _ _ _ _ _ _ h1 h⟩
    · cases h
  · skip
    split at h
    · rename_i hx'
      subst hx'
      cases (show smP[113]? = some f113 from rfl).symm.trans hx
      split at h
      · replace h := sm_ga_inv h
        obtain ⟨h1, h⟩ := h
        exact Or.inl ⟨1, by omega, m113  h1 h⟩
      · cases h
    · skip
      split at h
      · rename_i hx'
        subst hx'
        cases (show smP[153]? = some f153 from rfl).symm.trans hx
        split at h
        · skip
          exact Or.inl ⟨1, by omega, m153   h⟩
        · cases h
      · skip
        split at h
        · rename_i hx'
          subst hx'
          cases (show smP[154]? = some f154 from rfl).symm.trans hx
          split at h
          · skip
            exact Or.inl ⟨1, by omega, m154   h⟩
          · cases h
        · skip
          cases h
set_option maxRecDepth 20000 in
set_option maxHeartbeats 4000000 in
theorem w121_52 (rec : Nat → Nat → Nat → Nat → Nat → Int32 → Int32 → sm_M → Option sm_S) (dr : Nat) (hrec : ∀ (d0 d1 d2 d3 d4 : Nat) (l1 l2 : Int32) (M : sm_M) (R : sm_S), [d4] ∈ gC → rec d0 d1 d2 d3 d4 l1 l2 M = some R → sm_MJ smT smCl smSa shC f117 dr [.ref 24, .int l1, .int l2] [d0, d1, d2, d3, d4] M R) (d0 d1 d2 d3 d4 : Nat) (hd4 : [d4] ∈ gC) {s0 : Int32} {g0 g1 g2 g3 g4 : Value} {M : sm_M} {R : sm_S} (h : jW_writePart_52 rec d0 d1 d2 d3 d4 s0 M = some R) : sm_WJ smT smCl smSa shC f121 (dr + 2) 52 [g0, g1, g2, g3, g4] [.int s0] [d0, d1, d2, d3, d4] M R := by
  rcases gC_inv hd4 with rfl | rfl
  · have e : jW_writePart_52 rec d0 d1 d2 d3 40 s0 M = (sm_run shC smSa (cal121 rec) c121 false (fun a D M => some (a, D, M)) sm_noleaf 33 (c121.drop 27) [g0, g1, g2, g3, g4] [.int s0] [d0, d1, d2, d3, 40] M : Option (sm_S)) := rfl
    exact sm_blk (ρ := sm_S) (gd := (fun v => v = R)) (kx := 121) (i := 27) smVC rfl (by decide) (ck121 rec dr hrec) (fun a D M v e1 e2 => by cases e1; exact e2.symm) (sm_noleaf_ok) rfl (e.symm.trans h) rfl
  · have e : jW_writePart_52 rec d0 d1 d2 d3 50 s0 M = (sm_run shC smSa (cal121 rec) c121 false (fun a D M => some (a, D, M)) sm_noleaf 33 (c121.drop 27) [g0, g1, g2, g3, g4] [.int s0] [d0, d1, d2, d3, 50] M : Option (sm_S)) := rfl
    exact sm_blk (ρ := sm_S) (gd := (fun v => v = R)) (kx := 121) (i := 27) smVC rfl (by decide) (ck121 rec dr hrec) (fun a D M v e1 e2 => by cases e1; exact e2.symm) (sm_noleaf_ok) rfl (e.symm.trans h) rfl
noncomputable def lf121_0 (rec : Nat → Nat → Nat → Nat → Nat → Int32 → Int32 → sm_M → Option sm_S) (d0 d1 d2 d3 d4 : Nat) : Nat → List Value → List Value → sm_D → sm_M → Option (sm_S) := fun pc ls st D' M =>
  if pc = 52 then (match ls, st with
    | [gl0, gl1, gl2, gl3, gl4], [.int bs0] => (sm_dq D' [d0, d1, d2, d3, d4] (jW_writePart_52 rec d0 d1 d2 d3 d4 bs0 M))
    | _, _ => none)
  else none
theorem ll121_0 (rec : Nat → Nat → Nat → Nat → Nat → Int32 → Int32 → sm_M → Option sm_S) (dr : Nat) (hrec : ∀ (d0 d1 d2 d3 d4 : Nat) (l1 l2 : Int32) (M : sm_M) (R : sm_S), [d4] ∈ gC → rec d0 d1 d2 d3 d4 l1 l2 M = some R → sm_MJ smT smCl smSa shC f117 dr [.ref 24, .int l1, .int l2] [d0, d1, d2, d3, d4] M R) (d0 d1 d2 d3 d4 : Nat) (hd4 : [d4] ∈ gC) {R : sm_S} : ∀ (pc : Nat) (ls st : List Value) (D' : sm_D) (M : sm_M) (v : sm_S), (lf121_0 rec d0 d1 d2 d3 d4) pc ls st D' M = some v → (fun v => v = R) v → sm_WJ smT smCl smSa shC f121 (dr + 2) pc ls st D' M R := by
  intro pc ls st D' M v h hv
  unfold lf121_0 at h
  split at h
  · rename_i hp0
    subst hp0
    split at h
    · skip
      replace h := sm_dq_inv h
      obtain ⟨he, h⟩ := h
      subst he
      have hv : v = R := hv
      subst hv
      exact w121_52 rec dr hrec _ _ _ _ _ hd4 h
    · cases h
  · skip
    cases h
set_option maxRecDepth 20000 in
set_option maxHeartbeats 4000000 in
theorem we121 (rec : Nat → Nat → Nat → Nat → Nat → Int32 → Int32 → sm_M → Option sm_S) (dr : Nat) (hrec : ∀ (d0 d1 d2 d3 d4 : Nat) (l1 l2 : Int32) (M : sm_M) (R : sm_S), [d4] ∈ gC → rec d0 d1 d2 d3 d4 l1 l2 M = some R → sm_MJ smT smCl smSa shC f117 dr [.ref 24, .int l1, .int l2] [d0, d1, d2, d3, d4] M R) (d0 d1 d2 d3 d4 : Nat) (hd4 : [d4] ∈ gC) {l1 l2 l3 : Int32} {M : sm_M} {R : sm_S} (h : jW_writePart rec d0 d1 d2 d3 d4 l1 l2 l3 M = some R) : sm_WJ smT smCl smSa shC f121 (dr + 2) 0 [.ref 24, .int l1, .int l2, .int l3, .retAddr 0] [] [d0, d1, d2, d3, d4] M R := by
  rcases gC_inv hd4 with rfl | rfl
  · have e : jW_writePart rec d0 d1 d2 d3 40 l1 l2 l3 M = (sm_run shC smSa (cal121 rec) c121 false (fun a D M => some (a, D, M)) (lf121_0 rec d0 d1 d2 d3 40) 33 (c121.drop 0) [.ref 24, .int l1, .int l2, .int l3, .retAddr 0] [] [d0, d1, d2, d3, 40] M : Option (sm_S)) := rfl
    exact sm_blk (ρ := sm_S) (gd := (fun v => v = R)) (kx := 121) (i := 0) smVC rfl (by decide) (ck121 rec dr hrec) (fun a D M v e1 e2 => by cases e1; exact e2.symm) (ll121_0 rec dr hrec d0 d1 d2 d3 40 (by decide)) rfl (e.symm.trans h) rfl
  · have e : jW_writePart rec d0 d1 d2 d3 50 l1 l2 l3 M = (sm_run shC smSa (cal121 rec) c121 false (fun a D M => some (a, D, M)) (lf121_0 rec d0 d1 d2 d3 50) 33 (c121.drop 0) [.ref 24, .int l1, .int l2, .int l3, .retAddr 0] [] [d0, d1, d2, d3, 50] M : Option (sm_S)) := rfl
    exact sm_blk (ρ := sm_S) (gd := (fun v => v = R)) (kx := 121) (i := 0) smVC rfl (by decide) (ck121 rec dr hrec) (fun a D M v e1 e2 => by cases e1; exact e2.symm) (ll121_0 rec dr hrec d0 d1 d2 d3 50 (by decide)) rfl (e.symm.trans h) rfl
theorem m121 (rec : Nat → Nat → Nat → Nat → Nat → Int32 → Int32 → sm_M → Option sm_S) (dr : Nat) (hrec : ∀ (d0 d1 d2 d3 d4 : Nat) (l1 l2 : Int32) (M : sm_M) (R : sm_S), [d4] ∈ gC → rec d0 d1 d2 d3 d4 l1 l2 M = some R → sm_MJ smT smCl smSa shC f117 dr [.ref 24, .int l1, .int l2] [d0, d1, d2, d3, d4] M R) {d0 d1 d2 d3 d4 : Nat} (hd4 : [d4] ∈ gC) {l1 l2 l3 : Int32} {M : sm_M} {R : sm_S} (h : jW_writePart rec d0 d1 d2 d3 d4 l1 l2 l3 M = some R) : sm_MJ smT smCl smSa shC f121 (dr + 2) [.ref 24, .int l1, .int l2, .int l3] [d0, d1, d2, d3, d4] M R :=
  sm_met (by decide) (Nat.le_of_ble_eq_true rfl) (List.all_eq_true.mp rfl) (we121 rec dr hrec d0 d1 d2 d3 d4 hd4 h)

-- jW_operationFor
set_option maxRecDepth 20000 in
set_option maxHeartbeats 4000000 in
theorem we120 {l0 : Int32} {D : sm_D} {M : sm_M} {R : sm_S} (h : jW_operationFor l0 D M = some R) : sm_WJ smT smCl smSa shC f120 0 0 [.int l0] [] D M R := by
  have e : jW_operationFor l0 D M = (sm_run shC smSa sm_nocal c120 false (fun a D M => some (a, D, M)) sm_noleaf 15 (c120.drop 0) [.int l0] [] D M : Option (sm_S)) := rfl
  exact sm_blk (ρ := sm_S) (gd := (fun v => v = R)) (kx := 120) (i := 0) smVC rfl (by decide) (sm_nocal_ok smT smCl smP smSa shC 0) (fun a D M v e1 e2 => by cases e1; exact e2.symm) (sm_noleaf_ok) rfl (e.symm.trans h) rfl
theorem m120 {l0 : Int32} {D : sm_D} {M : sm_M} {R : sm_S} (h : jW_operationFor l0 D M = some R) : sm_MJ smT smCl smSa shC f120 0 [.int l0] D M R :=
  sm_met (by decide) (Nat.le_of_ble_eq_true rfl) (List.all_eq_true.mp rfl) (we120  h)

-- jW_writeTwo
noncomputable def cal119 (rec : Nat → Nat → Nat → Nat → Nat → Int32 → Int32 → sm_M → Option sm_S) : sm_Cal := fun x as D M =>
  if x = 117 then (match as, D with
    | [.ref 24, .int a1, .int a2], [e0, e1, e2, e3, e4] => (sm_ga [e4] gC (rec e0 e1 e2 e3 e4 a1 a2 M))
    | _, _ => none)
  else if x = 113 then (match as with
    | [.ref q0, .int a1, .int a2, .int a3, .int a4] => (sm_ga [q0] gC (jC_put q0 a1 a2 a3 a4 D M))
    | _ => none)
  else if x = 126 then (match as, D with
    | [.ref 24, .int a1, .int a2, .int a3], [e0, e1, e2, e3, e4] => (sm_ga [e4] gC (jW_extend e0 e1 e2 e3 e4 a1 a2 a3 M))
    | _, _ => none)
  else if x = 120 then (match as with
    | [.int a0] => (jW_operationFor a0 D M)
    | _ => none)
  else if x = 159 then (match as with
    | [.ref 1, .int a1, .int a2, .int a3, .int a4] => (jT_find a1 a2 a3 a4 D M)
    | _ => none)
  else none
theorem ck119 (rec : Nat → Nat → Nat → Nat → Nat → Int32 → Int32 → sm_M → Option sm_S) (dr : Nat) (hrec : ∀ (d0 d1 d2 d3 d4 : Nat) (l1 l2 : Int32) (M : sm_M) (R : sm_S), [d4] ∈ gC → rec d0 d1 d2 d3 d4 l1 l2 M = some R → sm_MJ smT smCl smSa shC f117 dr [.ref 24, .int l1, .int l2] [d0, d1, d2, d3, d4] M R) : sm_CalOk smT smCl smP smSa shC (dr + 3) (cal119 rec) := by
  intro x g as D M R hx h
  unfold cal119 at h
  split at h
  · rename_i hx'
    subst hx'
    cases (show smP[117]? = some f117 from rfl).symm.trans hx
    split at h
    · replace h := sm_ga_inv h
      obtain ⟨h1, h⟩ := h
      exact Or.inl ⟨dr, by omega, hrec _ _ _ _ _ _ _ _ _ h1 h⟩
    · cases h
  · skip
    split at h
    · rename_i hx'
      subst hx'
      cases (show smP[113]? = some f113 from rfl).symm.trans hx
      split at h
      · replace h := sm_ga_inv h
        obtain ⟨h1, h⟩ := h
        exact Or.inl ⟨1, by omega, m113  h1 h⟩
      · cases h
    · skip
      split at h
      · rename_i hx'
        subst hx'
        cases (show smP[126]? = some f126 from rfl).symm.trans hx
        split at h
        · replace h := sm_ga_inv h
          obtain ⟨h1, h⟩ := h
          exact Or.inl ⟨2, by omega, m126  h1 h⟩
        · cases h
      · skip
        split at h
        · rename_i hx'
          subst hx'
          cases (show smP[120]? = some f120 from rfl).symm.trans hx
          split at h
          · skip
            exact Or.inl ⟨0, by omega, m120   h⟩
          · cases h
        · skip
          split at h
          · rename_i hx'
            subst hx'
            cases (show smP[159]? = some f159 from rfl).symm.trans hx
            split at h
            · skip
              exact Or.inl ⟨1, by omega, m159   h⟩
            · cases h
          · skip
            cases h
set_option maxRecDepth 20000 in
set_option maxHeartbeats 4000000 in
theorem w119_134 (rec : Nat → Nat → Nat → Nat → Nat → Int32 → Int32 → sm_M → Option sm_S) (dr : Nat) (hrec : ∀ (d0 d1 d2 d3 d4 : Nat) (l1 l2 : Int32) (M : sm_M) (R : sm_S), [d4] ∈ gC → rec d0 d1 d2 d3 d4 l1 l2 M = some R → sm_MJ smT smCl smSa shC f117 dr [.ref 24, .int l1, .int l2] [d0, d1, d2, d3, d4] M R) (d0 d1 d2 d3 d4 : Nat) (hd4 : [d4] ∈ gC) {s0 : Int32} {g0 g1 g2 g3 g4 g5 : Value} {M : sm_M} {R : sm_S} (h : jW_writeTwo_134 rec d0 d1 d2 d3 d4 s0 M = some R) : sm_WJ smT smCl smSa shC f119 (dr + 3) 134 [g0, g1, g2, g3, g4, g5] [.int s0] [d0, d1, d2, d3, d4] M R := by
  rcases gC_inv hd4 with rfl | rfl
  · have e : jW_writeTwo_134 rec d0 d1 d2 d3 40 s0 M = (sm_run shC smSa (cal119 rec) c119 false (fun a D M => some (a, D, M)) sm_noleaf 83 (c119.drop 77) [g0, g1, g2, g3, g4, g5] [.int s0] [d0, d1, d2, d3, 40] M : Option (sm_S)) := rfl
    exact sm_blk (ρ := sm_S) (gd := (fun v => v = R)) (kx := 119) (i := 77) smVC rfl (by decide) (ck119 rec dr hrec) (fun a D M v e1 e2 => by cases e1; exact e2.symm) (sm_noleaf_ok) rfl (e.symm.trans h) rfl
  · have e : jW_writeTwo_134 rec d0 d1 d2 d3 50 s0 M = (sm_run shC smSa (cal119 rec) c119 false (fun a D M => some (a, D, M)) sm_noleaf 83 (c119.drop 77) [g0, g1, g2, g3, g4, g5] [.int s0] [d0, d1, d2, d3, 50] M : Option (sm_S)) := rfl
    exact sm_blk (ρ := sm_S) (gd := (fun v => v = R)) (kx := 119) (i := 77) smVC rfl (by decide) (ck119 rec dr hrec) (fun a D M v e1 e2 => by cases e1; exact e2.symm) (sm_noleaf_ok) rfl (e.symm.trans h) rfl
noncomputable def lf119_111 (rec : Nat → Nat → Nat → Nat → Nat → Int32 → Int32 → sm_M → Option sm_S) (d0 d1 d2 d3 d4 : Nat) : Nat → List Value → List Value → sm_D → sm_M → Option (sm_S) := fun pc ls st D' M =>
  if pc = 134 then (match ls, st with
    | [gl0, gl1, gl2, gl3, gl4, gl5], [.int bs0] => (sm_dq D' [d0, d1, d2, d3, d4] (jW_writeTwo_134 rec d0 d1 d2 d3 d4 bs0 M))
    | _, _ => none)
  else none
theorem ll119_111 (rec : Nat → Nat → Nat → Nat → Nat → Int32 → Int32 → sm_M → Option sm_S) (dr : Nat) (hrec : ∀ (d0 d1 d2 d3 d4 : Nat) (l1 l2 : Int32) (M : sm_M) (R : sm_S), [d4] ∈ gC → rec d0 d1 d2 d3 d4 l1 l2 M = some R → sm_MJ smT smCl smSa shC f117 dr [.ref 24, .int l1, .int l2] [d0, d1, d2, d3, d4] M R) (d0 d1 d2 d3 d4 : Nat) (hd4 : [d4] ∈ gC) {R : sm_S} : ∀ (pc : Nat) (ls st : List Value) (D' : sm_D) (M : sm_M) (v : sm_S), (lf119_111 rec d0 d1 d2 d3 d4) pc ls st D' M = some v → (fun v => v = R) v → sm_WJ smT smCl smSa shC f119 (dr + 3) pc ls st D' M R := by
  intro pc ls st D' M v h hv
  unfold lf119_111 at h
  split at h
  · rename_i hp0
    subst hp0
    split at h
    · skip
      replace h := sm_dq_inv h
      obtain ⟨he, h⟩ := h
      subst he
      have hv : v = R := hv
      subst hv
      exact w119_134 rec dr hrec _ _ _ _ _ hd4 h
    · cases h
  · skip
    cases h
set_option maxRecDepth 20000 in
set_option maxHeartbeats 4000000 in
theorem w119_111 (rec : Nat → Nat → Nat → Nat → Nat → Int32 → Int32 → sm_M → Option sm_S) (dr : Nat) (hrec : ∀ (d0 d1 d2 d3 d4 : Nat) (l1 l2 : Int32) (M : sm_M) (R : sm_S), [d4] ∈ gC → rec d0 d1 d2 d3 d4 l1 l2 M = some R → sm_MJ smT smCl smSa shC f117 dr [.ref 24, .int l1, .int l2] [d0, d1, d2, d3, d4] M R) (d0 d1 d2 d3 d4 : Nat) (hd4 : [d4] ∈ gC) {l3 l4 s0 : Int32} {g1 g2 g5 : Value} {M : sm_M} {R : sm_S} (h : jW_writeTwo_111 rec d0 d1 d2 d3 d4 l3 l4 s0 M = some R) : sm_WJ smT smCl smSa shC f119 (dr + 3) 111 [.ref 24, g1, g2, .int l3, .int l4, g5] [.int s0] [d0, d1, d2, d3, d4] M R := by
  rcases gC_inv hd4 with rfl | rfl
  · have e : jW_writeTwo_111 rec d0 d1 d2 d3 40 l3 l4 s0 M = (sm_run shC smSa (cal119 rec) c119 false (fun a D M => some (a, D, M)) (lf119_111 rec d0 d1 d2 d3 40) 83 (c119.drop 65) [.ref 24, g1, g2, .int l3, .int l4, g5] [.int s0] [d0, d1, d2, d3, 40] M : Option (sm_S)) := rfl
    exact sm_blk (ρ := sm_S) (gd := (fun v => v = R)) (kx := 119) (i := 65) smVC rfl (by decide) (ck119 rec dr hrec) (fun a D M v e1 e2 => by cases e1; exact e2.symm) (ll119_111 rec dr hrec d0 d1 d2 d3 40 (by decide)) rfl (e.symm.trans h) rfl
  · have e : jW_writeTwo_111 rec d0 d1 d2 d3 50 l3 l4 s0 M = (sm_run shC smSa (cal119 rec) c119 false (fun a D M => some (a, D, M)) (lf119_111 rec d0 d1 d2 d3 50) 83 (c119.drop 65) [.ref 24, g1, g2, .int l3, .int l4, g5] [.int s0] [d0, d1, d2, d3, 50] M : Option (sm_S)) := rfl
    exact sm_blk (ρ := sm_S) (gd := (fun v => v = R)) (kx := 119) (i := 65) smVC rfl (by decide) (ck119 rec dr hrec) (fun a D M v e1 e2 => by cases e1; exact e2.symm) (ll119_111 rec dr hrec d0 d1 d2 d3 50 (by decide)) rfl (e.symm.trans h) rfl
noncomputable def lf119_0 (rec : Nat → Nat → Nat → Nat → Nat → Int32 → Int32 → sm_M → Option sm_S) (d0 d1 d2 d3 d4 : Nat) : Nat → List Value → List Value → sm_D → sm_M → Option (sm_S) := fun pc ls st D' M =>
  if pc = 111 then (match ls, st with
    | [.ref 24, gl1, gl2, .int bl3, .int bl4, gl5], [.int bs0] => (sm_dq D' [d0, d1, d2, d3, d4] (jW_writeTwo_111 rec d0 d1 d2 d3 d4 bl3 bl4 bs0 M))
    | _, _ => none)
  else none
theorem ll119_0 (rec : Nat → Nat → Nat → Nat → Nat → Int32 → Int32 → sm_M → Option sm_S) (dr : Nat) (hrec : ∀ (d0 d1 d2 d3 d4 : Nat) (l1 l2 : Int32) (M : sm_M) (R : sm_S), [d4] ∈ gC → rec d0 d1 d2 d3 d4 l1 l2 M = some R → sm_MJ smT smCl smSa shC f117 dr [.ref 24, .int l1, .int l2] [d0, d1, d2, d3, d4] M R) (d0 d1 d2 d3 d4 : Nat) (hd4 : [d4] ∈ gC) {R : sm_S} : ∀ (pc : Nat) (ls st : List Value) (D' : sm_D) (M : sm_M) (v : sm_S), (lf119_0 rec d0 d1 d2 d3 d4) pc ls st D' M = some v → (fun v => v = R) v → sm_WJ smT smCl smSa shC f119 (dr + 3) pc ls st D' M R := by
  intro pc ls st D' M v h hv
  unfold lf119_0 at h
  split at h
  · rename_i hp0
    subst hp0
    split at h
    · skip
      replace h := sm_dq_inv h
      obtain ⟨he, h⟩ := h
      subst he
      have hv : v = R := hv
      subst hv
      exact w119_111 rec dr hrec _ _ _ _ _ hd4 h
    · cases h
  · skip
    cases h
set_option maxRecDepth 20000 in
set_option maxHeartbeats 4000000 in
theorem we119 (rec : Nat → Nat → Nat → Nat → Nat → Int32 → Int32 → sm_M → Option sm_S) (dr : Nat) (hrec : ∀ (d0 d1 d2 d3 d4 : Nat) (l1 l2 : Int32) (M : sm_M) (R : sm_S), [d4] ∈ gC → rec d0 d1 d2 d3 d4 l1 l2 M = some R → sm_MJ smT smCl smSa shC f117 dr [.ref 24, .int l1, .int l2] [d0, d1, d2, d3, d4] M R) (d0 d1 d2 d3 d4 : Nat) (hd4 : [d4] ∈ gC) {l1 l2 : Int32} {M : sm_M} {R : sm_S} (h : jW_writeTwo rec d0 d1 d2 d3 d4 l1 l2 M = some R) : sm_WJ smT smCl smSa shC f119 (dr + 3) 0 [.ref 24, .int l1, .int l2, .retAddr 0, .retAddr 0, .retAddr 0] [] [d0, d1, d2, d3, d4] M R := by
  rcases gC_inv hd4 with rfl | rfl
  · have e : jW_writeTwo rec d0 d1 d2 d3 40 l1 l2 M = (sm_run shC smSa (cal119 rec) c119 false (fun a D M => some (a, D, M)) (lf119_0 rec d0 d1 d2 d3 40) 83 (c119.drop 0) [.ref 24, .int l1, .int l2, .retAddr 0, .retAddr 0, .retAddr 0] [] [d0, d1, d2, d3, 40] M : Option (sm_S)) := rfl
    exact sm_blk (ρ := sm_S) (gd := (fun v => v = R)) (kx := 119) (i := 0) smVC rfl (by decide) (ck119 rec dr hrec) (fun a D M v e1 e2 => by cases e1; exact e2.symm) (ll119_0 rec dr hrec d0 d1 d2 d3 40 (by decide)) rfl (e.symm.trans h) rfl
  · have e : jW_writeTwo rec d0 d1 d2 d3 50 l1 l2 M = (sm_run shC smSa (cal119 rec) c119 false (fun a D M => some (a, D, M)) (lf119_0 rec d0 d1 d2 d3 50) 83 (c119.drop 0) [.ref 24, .int l1, .int l2, .retAddr 0, .retAddr 0, .retAddr 0] [] [d0, d1, d2, d3, 50] M : Option (sm_S)) := rfl
    exact sm_blk (ρ := sm_S) (gd := (fun v => v = R)) (kx := 119) (i := 0) smVC rfl (by decide) (ck119 rec dr hrec) (fun a D M v e1 e2 => by cases e1; exact e2.symm) (ll119_0 rec dr hrec d0 d1 d2 d3 50 (by decide)) rfl (e.symm.trans h) rfl
theorem m119 (rec : Nat → Nat → Nat → Nat → Nat → Int32 → Int32 → sm_M → Option sm_S) (dr : Nat) (hrec : ∀ (d0 d1 d2 d3 d4 : Nat) (l1 l2 : Int32) (M : sm_M) (R : sm_S), [d4] ∈ gC → rec d0 d1 d2 d3 d4 l1 l2 M = some R → sm_MJ smT smCl smSa shC f117 dr [.ref 24, .int l1, .int l2] [d0, d1, d2, d3, d4] M R) {d0 d1 d2 d3 d4 : Nat} (hd4 : [d4] ∈ gC) {l1 l2 : Int32} {M : sm_M} {R : sm_S} (h : jW_writeTwo rec d0 d1 d2 d3 d4 l1 l2 M = some R) : sm_MJ smT smCl smSa shC f119 (dr + 3) [.ref 24, .int l1, .int l2] [d0, d1, d2, d3, d4] M R :=
  sm_met (by decide) (Nat.le_of_ble_eq_true rfl) (List.all_eq_true.mp rfl) (we119 rec dr hrec d0 d1 d2 d3 d4 hd4 h)

-- jW_write
noncomputable def cal117 (rec : Nat → Nat → Nat → Nat → Nat → Int32 → Int32 → sm_M → Option sm_S) : sm_Cal := fun x as D M =>
  if x = 113 then (match as with
    | [.ref q0, .int a1, .int a2, .int a3, .int a4] => (sm_ga [q0] gC (jC_put q0 a1 a2 a3 a4 D M))
    | _ => none)
  else if x = 118 then (match as, D with
    | [.ref 24, .int a1, .int a2], [e0, e1, e2, e3, e4] => (sm_ga [e4] gC (jW_writeVariable e0 e1 e2 e3 e4 a1 a2 M))
    | _, _ => none)
  else if x = 122 then (match as, D with
    | [.ref 24, .int a1, .int a2], [e0, e1, e2, e3, e4] => (sm_ga [e4] gC (jW_writeChoice rec e0 e1 e2 e3 e4 a1 a2 M))
    | _, _ => none)
  else if x = 123 then (match as, D with
    | [.ref 24, .int a1, .int a2], [e0, e1, e2, e3, e4] => (sm_ga [e4] gC (jW_writeLambda e0 e1 e2 e3 e4 a1 a2 M))
    | _, _ => none)
  else if x = 125 then (match as, D with
    | [.ref 24, .int a1, .int a2], [e0, e1, e2, e3, e4] => (sm_ga [e4] gC (jW_writeCall rec e0 e1 e2 e3 e4 a1 a2 M))
    | _, _ => none)
  else if x = 121 then (match as, D with
    | [.ref 24, .int a1, .int a2, .int a3], [e0, e1, e2, e3, e4] => (sm_ga [e4] gC (jW_writePart rec e0 e1 e2 e3 e4 a1 a2 a3 M))
    | _, _ => none)
  else if x = 119 then (match as, D with
    | [.ref 24, .int a1, .int a2], [e0, e1, e2, e3, e4] => (sm_ga [e4] gC (jW_writeTwo rec e0 e1 e2 e3 e4 a1 a2 M))
    | _, _ => none)
  else none
theorem ck117 (rec : Nat → Nat → Nat → Nat → Nat → Int32 → Int32 → sm_M → Option sm_S) (dr : Nat) (hrec : ∀ (d0 d1 d2 d3 d4 : Nat) (l1 l2 : Int32) (M : sm_M) (R : sm_S), [d4] ∈ gC → rec d0 d1 d2 d3 d4 l1 l2 M = some R → sm_MJ smT smCl smSa shC f117 dr [.ref 24, .int l1, .int l2] [d0, d1, d2, d3, d4] M R) : sm_CalOk smT smCl smP smSa shC (dr + 4) (cal117 rec) := by
  intro x g as D M R hx h
  unfold cal117 at h
  split at h
  · rename_i hx'
    subst hx'
    cases (show smP[113]? = some f113 from rfl).symm.trans hx
    split at h
    · replace h := sm_ga_inv h
      obtain ⟨h1, h⟩ := h
      exact Or.inl ⟨1, by omega, m113  h1 h⟩
    · cases h
  · skip
    split at h
    · rename_i hx'
      subst hx'
      cases (show smP[118]? = some f118 from rfl).symm.trans hx
      split at h
      · replace h := sm_ga_inv h
        obtain ⟨h1, h⟩ := h
        exact Or.inl ⟨2, by omega, m118  h1 h⟩
      · cases h
    · skip
      split at h
      · rename_i hx'
        subst hx'
        cases (show smP[122]? = some f122 from rfl).symm.trans hx
        split at h
        · replace h := sm_ga_inv h
          obtain ⟨h1, h⟩ := h
          exact Or.inl ⟨dr + 3, by omega, m122 rec dr hrec h1 h⟩
        · cases h
      · skip
        split at h
        · rename_i hx'
          subst hx'
          cases (show smP[123]? = some f123 from rfl).symm.trans hx
          split at h
          · replace h := sm_ga_inv h
            obtain ⟨h1, h⟩ := h
            exact Or.inl ⟨2, by omega, m123  h1 h⟩
          · cases h
        · skip
          split at h
          · rename_i hx'
            subst hx'
            cases (show smP[125]? = some f125 from rfl).symm.trans hx
            split at h
            · replace h := sm_ga_inv h
              obtain ⟨h1, h⟩ := h
              exact Or.inl ⟨dr + 3, by omega, m125 rec dr hrec h1 h⟩
            · cases h
          · skip
            split at h
            · rename_i hx'
              subst hx'
              cases (show smP[121]? = some f121 from rfl).symm.trans hx
              split at h
              · replace h := sm_ga_inv h
                obtain ⟨h1, h⟩ := h
                exact Or.inl ⟨dr + 2, by omega, m121 rec dr hrec h1 h⟩
              · cases h
            · skip
              split at h
              · rename_i hx'
                subst hx'
                cases (show smP[119]? = some f119 from rfl).symm.trans hx
                split at h
                · replace h := sm_ga_inv h
                  obtain ⟨h1, h⟩ := h
                  exact Or.inl ⟨dr + 3, by omega, m119 rec dr hrec h1 h⟩
                · cases h
              · skip
                cases h
set_option maxRecDepth 20000 in
set_option maxHeartbeats 4000000 in
theorem w117_153 (rec : Nat → Nat → Nat → Nat → Nat → Int32 → Int32 → sm_M → Option sm_S) (dr : Nat) (hrec : ∀ (d0 d1 d2 d3 d4 : Nat) (l1 l2 : Int32) (M : sm_M) (R : sm_S), [d4] ∈ gC → rec d0 d1 d2 d3 d4 l1 l2 M = some R → sm_MJ smT smCl smSa shC f117 dr [.ref 24, .int l1, .int l2] [d0, d1, d2, d3, d4] M R) (d0 d1 d2 d3 d4 : Nat) (hd4 : [d4] ∈ gC) {l1 l2 : Int32} {M : sm_M} {R : sm_S} (h : jW_write_153 rec d0 d1 d2 d3 d4 l1 l2 M = some R) : sm_WJ smT smCl smSa shC f117 (dr + 4) 153 [.ref 24, .int l1, .int l2] [] [d0, d1, d2, d3, d4] M R := by
  rcases gC_inv hd4 with rfl | rfl
  · have e : jW_write_153 rec d0 d1 d2 d3 40 l1 l2 M = (sm_run shC smSa (cal117 rec) c117 false (fun a D M => some (a, D, M)) sm_noleaf 71 (c117.drop 61) [.ref 24, .int l1, .int l2] [] [d0, d1, d2, d3, 40] M : Option (sm_S)) := rfl
    exact sm_blk (ρ := sm_S) (gd := (fun v => v = R)) (kx := 117) (i := 61) smVC rfl (by decide) (ck117 rec dr hrec) (fun a D M v e1 e2 => by cases e1; exact e2.symm) (sm_noleaf_ok) rfl (e.symm.trans h) rfl
  · have e : jW_write_153 rec d0 d1 d2 d3 50 l1 l2 M = (sm_run shC smSa (cal117 rec) c117 false (fun a D M => some (a, D, M)) sm_noleaf 71 (c117.drop 61) [.ref 24, .int l1, .int l2] [] [d0, d1, d2, d3, 50] M : Option (sm_S)) := rfl
    exact sm_blk (ρ := sm_S) (gd := (fun v => v = R)) (kx := 117) (i := 61) smVC rfl (by decide) (ck117 rec dr hrec) (fun a D M v e1 e2 => by cases e1; exact e2.symm) (sm_noleaf_ok) rfl (e.symm.trans h) rfl
noncomputable def lf117_0 (rec : Nat → Nat → Nat → Nat → Nat → Int32 → Int32 → sm_M → Option sm_S) (d0 d1 d2 d3 d4 : Nat) : Nat → List Value → List Value → sm_D → sm_M → Option (sm_S) := fun pc ls st D' M =>
  if pc = 153 then (match ls, st with
    | [.ref 24, .int bl1, .int bl2], [] => (sm_dq D' [d0, d1, d2, d3, d4] (jW_write_153 rec d0 d1 d2 d3 d4 bl1 bl2 M))
    | _, _ => none)
  else none
theorem ll117_0 (rec : Nat → Nat → Nat → Nat → Nat → Int32 → Int32 → sm_M → Option sm_S) (dr : Nat) (hrec : ∀ (d0 d1 d2 d3 d4 : Nat) (l1 l2 : Int32) (M : sm_M) (R : sm_S), [d4] ∈ gC → rec d0 d1 d2 d3 d4 l1 l2 M = some R → sm_MJ smT smCl smSa shC f117 dr [.ref 24, .int l1, .int l2] [d0, d1, d2, d3, d4] M R) (d0 d1 d2 d3 d4 : Nat) (hd4 : [d4] ∈ gC) {R : sm_S} : ∀ (pc : Nat) (ls st : List Value) (D' : sm_D) (M : sm_M) (v : sm_S), (lf117_0 rec d0 d1 d2 d3 d4) pc ls st D' M = some v → (fun v => v = R) v → sm_WJ smT smCl smSa shC f117 (dr + 4) pc ls st D' M R := by
  intro pc ls st D' M v h hv
  unfold lf117_0 at h
  split at h
  · rename_i hp0
    subst hp0
    split at h
    · skip
      replace h := sm_dq_inv h
      obtain ⟨he, h⟩ := h
      subst he
      have hv : v = R := hv
      subst hv
      exact w117_153 rec dr hrec _ _ _ _ _ hd4 h
    · cases h
  · skip
    cases h
set_option maxRecDepth 20000 in
set_option maxHeartbeats 4000000 in
theorem we117 (rec : Nat → Nat → Nat → Nat → Nat → Int32 → Int32 → sm_M → Option sm_S) (dr : Nat) (hrec : ∀ (d0 d1 d2 d3 d4 : Nat) (l1 l2 : Int32) (M : sm_M) (R : sm_S), [d4] ∈ gC → rec d0 d1 d2 d3 d4 l1 l2 M = some R → sm_MJ smT smCl smSa shC f117 dr [.ref 24, .int l1, .int l2] [d0, d1, d2, d3, d4] M R) (d0 d1 d2 d3 d4 : Nat) (hd4 : [d4] ∈ gC) {l1 l2 : Int32} {M : sm_M} {R : sm_S} (h : jW_write0 rec d0 d1 d2 d3 d4 l1 l2 M = some R) : sm_WJ smT smCl smSa shC f117 (dr + 4) 0 [.ref 24, .int l1, .int l2] [] [d0, d1, d2, d3, d4] M R := by
  rcases gC_inv hd4 with rfl | rfl
  · have e : jW_write0 rec d0 d1 d2 d3 40 l1 l2 M = (sm_run shC smSa (cal117 rec) c117 false (fun a D M => some (a, D, M)) (lf117_0 rec d0 d1 d2 d3 40) 71 (c117.drop 0) [.ref 24, .int l1, .int l2] [] [d0, d1, d2, d3, 40] M : Option (sm_S)) := rfl
    exact sm_blk (ρ := sm_S) (gd := (fun v => v = R)) (kx := 117) (i := 0) smVC rfl (by decide) (ck117 rec dr hrec) (fun a D M v e1 e2 => by cases e1; exact e2.symm) (ll117_0 rec dr hrec d0 d1 d2 d3 40 (by decide)) rfl (e.symm.trans h) rfl
  · have e : jW_write0 rec d0 d1 d2 d3 50 l1 l2 M = (sm_run shC smSa (cal117 rec) c117 false (fun a D M => some (a, D, M)) (lf117_0 rec d0 d1 d2 d3 50) 71 (c117.drop 0) [.ref 24, .int l1, .int l2] [] [d0, d1, d2, d3, 50] M : Option (sm_S)) := rfl
    exact sm_blk (ρ := sm_S) (gd := (fun v => v = R)) (kx := 117) (i := 0) smVC rfl (by decide) (ck117 rec dr hrec) (fun a D M v e1 e2 => by cases e1; exact e2.symm) (ll117_0 rec dr hrec d0 d1 d2 d3 50 (by decide)) rfl (e.symm.trans h) rfl
theorem mh117 (rec : Nat → Nat → Nat → Nat → Nat → Int32 → Int32 → sm_M → Option sm_S) (dr : Nat) (hrec : ∀ (d0 d1 d2 d3 d4 : Nat) (l1 l2 : Int32) (M : sm_M) (R : sm_S), [d4] ∈ gC → rec d0 d1 d2 d3 d4 l1 l2 M = some R → sm_MJ smT smCl smSa shC f117 dr [.ref 24, .int l1, .int l2] [d0, d1, d2, d3, d4] M R) {d0 d1 d2 d3 d4 : Nat} (hd4 : [d4] ∈ gC) {l1 l2 : Int32} {M : sm_M} {R : sm_S} (h : jW_write0 rec d0 d1 d2 d3 d4 l1 l2 M = some R) : sm_MJ smT smCl smSa shC f117 (dr + 4) [.ref 24, .int l1, .int l2] [d0, d1, d2, d3, d4] M R :=
  sm_met (by decide) (Nat.le_of_ble_eq_true rfl) (List.all_eq_true.mp rfl) (we117 rec dr hrec d0 d1 d2 d3 d4 hd4 h)
theorem m117 (n : Nat) {d0 d1 d2 d3 d4 : Nat} (hd4 : [d4] ∈ gC) {l1 l2 : Int32} {M : sm_M} {R : sm_S} (h : jW_write n d0 d1 d2 d3 d4 l1 l2 M = some R) : sm_MJ smT smCl smSa shC f117 (n * 4) [.ref 24, .int l1, .int l2] [d0, d1, d2, d3, d4] M R := by
  induction n generalizing d0 d1 d2 d3 d4 l1 l2 M R with
  | zero => cases h
  | succ n ih =>
    rw [Nat.succ_mul]
    exact mh117 (jW_write n) (n * 4) (fun d0 d1 d2 d3 d4 l1 l2 M R hd h => ih hd h) hd4 h

-- jW_writeBody
noncomputable def cal124  : sm_Cal := fun x as D M =>
  if x = 153 then (match as with
    | [.ref 1, .int a1] => (jT_firstOf a1 D M)
    | _ => none)
  else if x = 154 then (match as with
    | [.ref 1, .int a1] => (jT_secondOf a1 D M)
    | _ => none)
  else if x = 159 then (match as with
    | [.ref 1, .int a1, .int a2, .int a3, .int a4] => (jT_find a1 a2 a3 a4 D M)
    | _ => none)
  else if x = 109 then (match as with
    | [.ref q0, .int a1, .int a2, .int a3, .int a4] => (sm_ga [q0] gC (jC_open q0 a1 a2 a3 a4 D M))
    | _ => none)
  else if x = 113 then (match as with
    | [.ref q0, .int a1, .int a2, .int a3, .int a4] => (sm_ga [q0] gC (jC_put q0 a1 a2 a3 a4 D M))
    | _ => none)
  else if x = 126 then (match as, D with
    | [.ref 24, .int a1, .int a2, .int a3], [e0, e1, e2, e3, e4] => (sm_ga [e4] gC (jW_extend e0 e1 e2 e3 e4 a1 a2 a3 M))
    | _, _ => none)
  else if x = 117 then (match as, D with
    | [.ref 24, .int a1, .int a2], [e0, e1, e2, e3, e4] => (sm_ga [e4] gC (jW_write 8 e0 e1 e2 e3 e4 a1 a2 M))
    | _, _ => none)
  else none
theorem ck124  : sm_CalOk smT smCl smP smSa shC 33 cal124 := by
  intro x g as D M R hx h
  unfold cal124 at h
  split at h
  · rename_i hx'
    subst hx'
    cases (show smP[153]? = some f153 from rfl).symm.trans hx
    split at h
    · skip
      exact Or.inl ⟨1, by omega, m153   h⟩
    · cases h
  · skip
    split at h
    · rename_i hx'
      subst hx'
      cases (show smP[154]? = some f154 from rfl).symm.trans hx
      split at h
      · skip
        exact Or.inl ⟨1, by omega, m154   h⟩
      · cases h
    · skip
      split at h
      · rename_i hx'
        subst hx'
        cases (show smP[159]? = some f159 from rfl).symm.trans hx
        split at h
        · skip
          exact Or.inl ⟨1, by omega, m159   h⟩
        · cases h
      · skip
        split at h
        · rename_i hx'
          subst hx'
          cases (show smP[109]? = some f109 from rfl).symm.trans hx
          split at h
          · replace h := sm_ga_inv h
            obtain ⟨h1, h⟩ := h
            exact Or.inl ⟨2, by omega, m109  h1 h⟩
          · cases h
        · skip
          split at h
          · rename_i hx'
            subst hx'
            cases (show smP[113]? = some f113 from rfl).symm.trans hx
            split at h
            · replace h := sm_ga_inv h
              obtain ⟨h1, h⟩ := h
              exact Or.inl ⟨1, by omega, m113  h1 h⟩
            · cases h
          · skip
            split at h
            · rename_i hx'
              subst hx'
              cases (show smP[126]? = some f126 from rfl).symm.trans hx
              split at h
              · replace h := sm_ga_inv h
                obtain ⟨h1, h⟩ := h
                exact Or.inl ⟨2, by omega, m126  h1 h⟩
              · cases h
            · skip
              split at h
              · rename_i hx'
                subst hx'
                cases (show smP[117]? = some f117 from rfl).symm.trans hx
                split at h
                · replace h := sm_ga_inv h
                  obtain ⟨h1, h⟩ := h
                  exact Or.inl ⟨8 * 4, by omega, m117 8 h1 h⟩
                · cases h
              · skip
                cases h
set_option maxRecDepth 20000 in
set_option maxHeartbeats 4000000 in
theorem we124 (d0 d1 d2 d3 d4 : Nat) (hd4 : [d4] ∈ gC) {l1 l2 l3 : Int32} {M : sm_M} {R : sm_S} (h : jW_writeBody d0 d1 d2 d3 d4 l1 l2 l3 M = some R) : sm_WJ smT smCl smSa shC f124 33 0 [.ref 24, .int l1, .int l2, .int l3, .retAddr 0, .retAddr 0, .retAddr 0, .retAddr 0, .retAddr 0] [] [d0, d1, d2, d3, d4] M R := by
  rcases gC_inv hd4 with rfl | rfl
  · have e : jW_writeBody d0 d1 d2 d3 40 l1 l2 l3 M = (sm_run shC smSa cal124 c124 false (fun a D M => some (a, D, M)) sm_noleaf 133 (c124.drop 0) [.ref 24, .int l1, .int l2, .int l3, .retAddr 0, .retAddr 0, .retAddr 0, .retAddr 0, .retAddr 0] [] [d0, d1, d2, d3, 40] M : Option (sm_S)) := rfl
    exact sm_blk (ρ := sm_S) (gd := (fun v => v = R)) (kx := 124) (i := 0) smVC rfl (by decide) ck124 (fun a D M v e1 e2 => by cases e1; exact e2.symm) (sm_noleaf_ok) rfl (e.symm.trans h) rfl
  · have e : jW_writeBody d0 d1 d2 d3 50 l1 l2 l3 M = (sm_run shC smSa cal124 c124 false (fun a D M => some (a, D, M)) sm_noleaf 133 (c124.drop 0) [.ref 24, .int l1, .int l2, .int l3, .retAddr 0, .retAddr 0, .retAddr 0, .retAddr 0, .retAddr 0] [] [d0, d1, d2, d3, 50] M : Option (sm_S)) := rfl
    exact sm_blk (ρ := sm_S) (gd := (fun v => v = R)) (kx := 124) (i := 0) smVC rfl (by decide) ck124 (fun a D M v e1 e2 => by cases e1; exact e2.symm) (sm_noleaf_ok) rfl (e.symm.trans h) rfl
theorem m124 {d0 d1 d2 d3 d4 : Nat} (hd4 : [d4] ∈ gC) {l1 l2 l3 : Int32} {M : sm_M} {R : sm_S} (h : jW_writeBody d0 d1 d2 d3 d4 l1 l2 l3 M = some R) : sm_MJ smT smCl smSa shC f124 33 [.ref 24, .int l1, .int l2, .int l3] [d0, d1, d2, d3, d4] M R :=
  sm_met (by decide) (Nat.le_of_ble_eq_true rfl) (List.all_eq_true.mp rfl) (we124 d0 d1 d2 d3 d4 hd4 h)

-- jW_translate
noncomputable def cal116  : sm_Cal := fun x as D M =>
  if x = 103 then (match as with
    | [.ref q0] => (sm_ga [q0] gC (jC_wipe q0 D M))
    | _ => none)
  else if x = 108 then (match as with
    | [.ref q0] => (sm_ga [q0] gC (jC_reserve q0 D M))
    | _ => none)
  else if x = 109 then (match as with
    | [.ref q0, .int a1, .int a2, .int a3, .int a4] => (sm_ga [q0] gC (jC_open q0 a1 a2 a3 a4 D M))
    | _ => none)
  else if x = 117 then (match as, D with
    | [.ref 24, .int a1, .int a2], [e0, e1, e2, e3, e4] => (sm_ga [e4] gC (jW_write 8 e0 e1 e2 e3 e4 a1 a2 M))
    | _, _ => none)
  else if x = 113 then (match as with
    | [.ref q0, .int a1, .int a2, .int a3, .int a4] => (sm_ga [q0] gC (jC_put q0 a1 a2 a3 a4 D M))
    | _ => none)
  else if x = 124 then (match as, D with
    | [.ref 24, .int a1, .int a2, .int a3], [e0, e1, e2, e3, e4] => (sm_ga [e4] gC (jW_writeBody e0 e1 e2 e3 e4 a1 a2 a3 M))
    | _, _ => none)
  else none
theorem ck116  : sm_CalOk smT smCl smP smSa shC 34 cal116 := by
  intro x g as D M R hx h
  unfold cal116 at h
  split at h
  · rename_i hx'
    subst hx'
    cases (show smP[103]? = some f103 from rfl).symm.trans hx
    split at h
    · replace h := sm_ga_inv h
      obtain ⟨h1, h⟩ := h
      exact Or.inl ⟨0, by omega, m103  h1 h⟩
    · cases h
  · skip
    split at h
    · rename_i hx'
      subst hx'
      cases (show smP[108]? = some f108 from rfl).symm.trans hx
      split at h
      · replace h := sm_ga_inv h
        obtain ⟨h1, h⟩ := h
        exact Or.inl ⟨0, by omega, m108  h1 h⟩
      · cases h
    · skip
      split at h
      · rename_i hx'
        subst hx'
        cases (show smP[109]? = some f109 from rfl).symm.trans hx
        split at h
        · replace h := sm_ga_inv h
          obtain ⟨h1, h⟩ := h
          exact Or.inl ⟨2, by omega, m109  h1 h⟩
        · cases h
      · skip
        split at h
        · rename_i hx'
          subst hx'
          cases (show smP[117]? = some f117 from rfl).symm.trans hx
          split at h
          · replace h := sm_ga_inv h
            obtain ⟨h1, h⟩ := h
            exact Or.inl ⟨8 * 4, by omega, m117 8 h1 h⟩
          · cases h
        · skip
          split at h
          · rename_i hx'
            subst hx'
            cases (show smP[113]? = some f113 from rfl).symm.trans hx
            split at h
            · replace h := sm_ga_inv h
              obtain ⟨h1, h⟩ := h
              exact Or.inl ⟨1, by omega, m113  h1 h⟩
            · cases h
          · skip
            split at h
            · rename_i hx'
              subst hx'
              cases (show smP[124]? = some f124 from rfl).symm.trans hx
              split at h
              · replace h := sm_ga_inv h
                obtain ⟨h1, h⟩ := h
                exact Or.inl ⟨33, by omega, m124  h1 h⟩
              · cases h
            · skip
              cases h
set_option maxRecDepth 20000 in
set_option maxHeartbeats 4000000 in
theorem w116_125 (p d0 d1 d2 d3 d4 : Nat) (hp : [p] ∈ gC) {s1 : Int32} {g1 g2 g3 : Value} {M : sm_M} {R : sm_S} (h : jW_translate_125 p d0 d1 d2 d3 d4 s1 M = some R) : sm_WJ smT smCl smSa shC f116 34 125 [.ref 24, g1, g2, g3] [.int s1, .ref p] [d0, d1, d2, d3, p] M R := by
  rcases gC_inv hp with rfl | rfl
  · have e : jW_translate_125 40 d0 d1 d2 d3 d4 s1 M = (sm_run shC smSa cal116 c116 true (fun a D M => some (a, D, M)) sm_noleaf 78 (c116.drop 68) [.ref 24, g1, g2, g3] [.int s1, .ref 40] [d0, d1, d2, d3, 40] M : Option (sm_S)) := rfl
    exact sm_blk (ρ := sm_S) (gd := (fun v => v = R)) (kx := 116) (i := 68) smVC rfl (by decide) ck116 (fun a D M v e1 e2 => by cases e1; exact e2.symm) (sm_noleaf_ok) rfl (e.symm.trans h) rfl
  · have e : jW_translate_125 50 d0 d1 d2 d3 d4 s1 M = (sm_run shC smSa cal116 c116 true (fun a D M => some (a, D, M)) sm_noleaf 78 (c116.drop 68) [.ref 24, g1, g2, g3] [.int s1, .ref 50] [d0, d1, d2, d3, 50] M : Option (sm_S)) := rfl
    exact sm_blk (ρ := sm_S) (gd := (fun v => v = R)) (kx := 116) (i := 68) smVC rfl (by decide) ck116 (fun a D M v e1 e2 => by cases e1; exact e2.symm) (sm_noleaf_ok) rfl (e.symm.trans h) rfl
noncomputable def lf116_106 (p d0 d1 d2 d3 d4 : Nat) : Nat → List Value → List Value → sm_D → sm_M → Option (sm_S) := fun pc ls st D' M =>
  if pc = 125 then (match ls, st with
    | [.ref 24, gl1, gl2, gl3], [.int bs1, .ref rs0] => (sm_eqp rs0 p (sm_dq D' [d0, d1, d2, d3, p] (jW_translate_125 p d0 d1 d2 d3 d4 bs1 M)))
    | _, _ => none)
  else none
theorem ll116_106 (p d0 d1 d2 d3 d4 : Nat) (hp : [p] ∈ gC) {R : sm_S} : ∀ (pc : Nat) (ls st : List Value) (D' : sm_D) (M : sm_M) (v : sm_S), (lf116_106 p d0 d1 d2 d3 d4) pc ls st D' M = some v → (fun v => v = R) v → sm_WJ smT smCl smSa shC f116 34 pc ls st D' M R := by
  intro pc ls st D' M v h hv
  unfold lf116_106 at h
  split at h
  · rename_i hp0
    subst hp0
    split at h
    · skip
      replace h := sm_eqp_inv h
      obtain ⟨he, h⟩ := h
      subst he
      replace h := sm_dq_inv h
      obtain ⟨he, h⟩ := h
      subst he
      have hv : v = R := hv
      subst hv
      exact w116_125 _ _ _ _ _ _ hp h
    · cases h
  · skip
    cases h
set_option maxRecDepth 20000 in
set_option maxHeartbeats 4000000 in
theorem w116_106 (p d0 d1 d2 d3 d4 : Nat) (hp : [p] ∈ gC) {g1 g2 g3 : Value} {M : sm_M} {R : sm_S} (h : jW_translate_106 p d0 d1 d2 d3 d4 M = some R) : sm_WJ smT smCl smSa shC f116 34 106 [.ref 24, g1, g2, g3] [] [d0, d1, d2, d3, p] M R := by
  rcases gC_inv hp with rfl | rfl
  · have e : jW_translate_106 40 d0 d1 d2 d3 d4 M = (sm_run shC smSa cal116 c116 true (fun a D M => some (a, D, M)) (lf116_106 40 d0 d1 d2 d3 d4) 78 (c116.drop 59) [.ref 24, g1, g2, g3] [] [d0, d1, d2, d3, 40] M : Option (sm_S)) := rfl
    exact sm_blk (ρ := sm_S) (gd := (fun v => v = R)) (kx := 116) (i := 59) smVC rfl (by decide) ck116 (fun a D M v e1 e2 => by cases e1; exact e2.symm) (ll116_106 40 d0 d1 d2 d3 d4 (by decide)) rfl (e.symm.trans h) rfl
  · have e : jW_translate_106 50 d0 d1 d2 d3 d4 M = (sm_run shC smSa cal116 c116 true (fun a D M => some (a, D, M)) (lf116_106 50 d0 d1 d2 d3 d4) 78 (c116.drop 59) [.ref 24, g1, g2, g3] [] [d0, d1, d2, d3, 50] M : Option (sm_S)) := rfl
    exact sm_blk (ρ := sm_S) (gd := (fun v => v = R)) (kx := 116) (i := 59) smVC rfl (by decide) ck116 (fun a D M v e1 e2 => by cases e1; exact e2.symm) (ll116_106 50 d0 d1 d2 d3 d4 (by decide)) rfl (e.symm.trans h) rfl
def lh116_60 (p d0 d1 d2 d3 d4 : Nat) (R : sm_S) (s : Int32 × sm_M) : Prop := ∀ (g1 g2 : Value), sm_WJ smT smCl smSa shC f116 34 60 [.ref 24, g1, g2, .int (s.1)] [] [d0, d1, d2, d3, p] (s.2) R
def gd116_60 (p d0 d1 d2 d3 d4 : Nat) (R : sm_S) (v : (Int32 × sm_M) ⊕ sm_S) : Prop := match v with
  | .inl s => lh116_60 p d0 d1 d2 d3 d4 R s
  | .inr r => r = R
noncomputable def lf116_60 (p d0 d1 d2 d3 d4 : Nat) : Nat → List Value → List Value → sm_D → sm_M → Option ((Int32 × sm_M) ⊕ sm_S) := fun pc ls st D' M =>
  if pc = 60 then (match ls, st with
    | [.ref 24, gl1, gl2, .int bl3], [] => (sm_dq D' [d0, d1, d2, d3, p] (some (.inl (bl3, M))))
    | _, _ => none)
  else if pc = 106 then (match ls, st with
    | [.ref 24, gl1, gl2, gl3], [] => (sm_dq D' [d0, d1, d2, d3, p] (sm_inr (jW_translate_106 p d0 d1 d2 d3 d4 M)))
    | _, _ => none)
  else none
theorem ll116_60 (p d0 d1 d2 d3 d4 : Nat) (hp : [p] ∈ gC) {R : sm_S} : ∀ (pc : Nat) (ls st : List Value) (D' : sm_D) (M : sm_M) (v : (Int32 × sm_M) ⊕ sm_S), (lf116_60 p d0 d1 d2 d3 d4) pc ls st D' M = some v → (gd116_60 p d0 d1 d2 d3 d4 R) v → sm_WJ smT smCl smSa shC f116 34 pc ls st D' M R := by
  intro pc ls st D' M v h hv
  unfold lf116_60 at h
  split at h
  · rename_i hp0
    subst hp0
    split at h
    · skip
      replace h := sm_dq_inv h
      obtain ⟨he, h⟩ := h
      subst he
      cases h
      exact hv _ _
    · cases h
  · skip
    split at h
    · rename_i hp0
      subst hp0
      split at h
      · skip
        replace h := sm_dq_inv h
        obtain ⟨he, h⟩ := h
        subst he
        replace h := sm_inr_inv h
        obtain ⟨r, h, he⟩ := h
        subst he
        have hv : r = R := hv
        subst hv
        exact w116_106 _ _ _ _ _ _ hp h
      · cases h
    · skip
      cases h
set_option maxRecDepth 20000 in
set_option maxHeartbeats 4000000 in
theorem wc116_60 (p d0 d1 d2 d3 d4 : Nat) (hp : [p] ∈ gC) {l3 : Int32} {g1 g2 : Value} {M : sm_M} {R : sm_S} {v : (Int32 × sm_M) ⊕ sm_S} (h : jW_translate_60_c p d0 d1 d2 d3 d4 l3 M = some v) (hv : (gd116_60 p d0 d1 d2 d3 d4 R) v) : sm_WJ smT smCl smSa shC f116 34 60 [.ref 24, g1, g2, .int l3] [] [d0, d1, d2, d3, p] M R := by
  rcases gC_inv hp with rfl | rfl
  · have e : jW_translate_60_c 40 d0 d1 d2 d3 d4 l3 M = (sm_run shC smSa cal116 c116 true (fun a D M => some (.inr (a, D, M))) (lf116_60 40 d0 d1 d2 d3 d4) 78 (c116.drop 35) [.ref 24, g1, g2, .int l3] [] [d0, d1, d2, d3, 40] M : Option ((Int32 × sm_M) ⊕ sm_S)) := rfl
    exact sm_blk (ρ := (Int32 × sm_M) ⊕ sm_S) (gd := (gd116_60 40 d0 d1 d2 d3 d4 R)) (kx := 116) (i := 35) smVC rfl (by decide) ck116 (fun a D M v e1 e2 => by cases e1; exact e2.symm) (ll116_60 40 d0 d1 d2 d3 d4 (by decide)) rfl (e.symm.trans h) hv
  · have e : jW_translate_60_c 50 d0 d1 d2 d3 d4 l3 M = (sm_run shC smSa cal116 c116 true (fun a D M => some (.inr (a, D, M))) (lf116_60 50 d0 d1 d2 d3 d4) 78 (c116.drop 35) [.ref 24, g1, g2, .int l3] [] [d0, d1, d2, d3, 50] M : Option ((Int32 × sm_M) ⊕ sm_S)) := rfl
    exact sm_blk (ρ := (Int32 × sm_M) ⊕ sm_S) (gd := (gd116_60 50 d0 d1 d2 d3 d4 R)) (kx := 116) (i := 35) smVC rfl (by decide) ck116 (fun a D M v e1 e2 => by cases e1; exact e2.symm) (ll116_60 50 d0 d1 d2 d3 d4 (by decide)) rfl (e.symm.trans h) hv
theorem w116_60 (p d0 d1 d2 d3 d4 : Nat) (hp : [p] ∈ gC) {l3 : Int32} {g1 g2 : Value} {M : sm_M} {R : sm_S} (h : jW_translate_60 p d0 d1 d2 d3 d4 l3 M = some R) : sm_WJ smT smCl smSa shC f116 34 60 [.ref 24, g1, g2, .int l3] [] [d0, d1, d2, d3, p] M R := by
  have hh : lh116_60 p d0 d1 d2 d3 d4 R (l3, M) := by
    refine sm_lp_ind (b := jW_translate_60_b p d0 d1 d2 d3 d4) (r := R) (lh116_60 p d0 d1 d2 d3 d4 R) ?_ h
    intro s v hb h1 h2
    obtain ⟨z0, M1⟩ := s
    have hv : gd116_60 p d0 d1 d2 d3 d4 R v := by
      cases v with
      | inl s' => exact h1 s' rfl
      | inr r => exact h2 r rfl
    intro g1 g2
    exact wc116_60 p d0 d1 d2 d3 d4 hp hb hv
  exact hh _ _
noncomputable def lf116_0 (p d0 d1 d2 d3 d4 : Nat) : Nat → List Value → List Value → sm_D → sm_M → Option (sm_S) := fun pc ls st D' M =>
  if pc = 60 then (match ls, st with
    | [.ref 24, gl1, gl2, .int bl3], [] => (sm_dq D' [d0, d1, d2, d3, p] (jW_translate_60 p d0 d1 d2 d3 d4 bl3 M))
    | _, _ => none)
  else none
theorem ll116_0 (p d0 d1 d2 d3 d4 : Nat) (hp : [p] ∈ gC) {R : sm_S} : ∀ (pc : Nat) (ls st : List Value) (D' : sm_D) (M : sm_M) (v : sm_S), (lf116_0 p d0 d1 d2 d3 d4) pc ls st D' M = some v → (fun v => v = R) v → sm_WJ smT smCl smSa shC f116 34 pc ls st D' M R := by
  intro pc ls st D' M v h hv
  unfold lf116_0 at h
  split at h
  · rename_i hp0
    subst hp0
    split at h
    · skip
      replace h := sm_dq_inv h
      obtain ⟨he, h⟩ := h
      subst he
      have hv : v = R := hv
      subst hv
      exact w116_60 _ _ _ _ _ _ hp h
    · cases h
  · skip
    cases h
set_option maxRecDepth 20000 in
set_option maxHeartbeats 4000000 in
theorem we116 (p d0 d1 d2 d3 d4 : Nat) (hp : [p] ∈ gC) {l1 : Int32} {M : sm_M} {R : sm_S} (h : jW_translate p d0 d1 d2 d3 d4 l1 M = some R) : sm_WJ smT smCl smSa shC f116 34 0 [.ref 24, .int l1, .ref p, .retAddr 0] [] [d0, d1, d2, d3, d4] M R := by
  rcases gC_inv hp with rfl | rfl
  · have e : jW_translate 40 d0 d1 d2 d3 d4 l1 M = (sm_run shC smSa cal116 c116 true (fun a D M => some (a, D, M)) (lf116_0 40 d0 d1 d2 d3 d4) 78 (c116.drop 0) [.ref 24, .int l1, .ref 40, .retAddr 0] [] [d0, d1, d2, d3, d4] M : Option (sm_S)) := rfl
    exact sm_blk (ρ := sm_S) (gd := (fun v => v = R)) (kx := 116) (i := 0) smVC rfl (by decide) ck116 (fun a D M v e1 e2 => by cases e1; exact e2.symm) (ll116_0 40 d0 d1 d2 d3 d4 (by decide)) rfl (e.symm.trans h) rfl
  · have e : jW_translate 50 d0 d1 d2 d3 d4 l1 M = (sm_run shC smSa cal116 c116 true (fun a D M => some (a, D, M)) (lf116_0 50 d0 d1 d2 d3 d4) 78 (c116.drop 0) [.ref 24, .int l1, .ref 50, .retAddr 0] [] [d0, d1, d2, d3, d4] M : Option (sm_S)) := rfl
    exact sm_blk (ρ := sm_S) (gd := (fun v => v = R)) (kx := 116) (i := 0) smVC rfl (by decide) ck116 (fun a D M v e1 e2 => by cases e1; exact e2.symm) (ll116_0 50 d0 d1 d2 d3 d4 (by decide)) rfl (e.symm.trans h) rfl
theorem m116 {p d0 d1 d2 d3 d4 : Nat} (hp : [p] ∈ gC) {l1 : Int32} {M : sm_M} {R : sm_S} (h : jW_translate p d0 d1 d2 d3 d4 l1 M = some R) : sm_MJ smT smCl smSa shC f116 34 [.ref 24, .int l1, .ref p] [d0, d1, d2, d3, d4] M R :=
  sm_met (by decide) (Nat.le_of_ble_eq_true rfl) (List.all_eq_true.mp rfl) (we116 p d0 d1 d2 d3 d4 hp h)

-- jV_value
set_option maxRecDepth 20000 in
set_option maxHeartbeats 4000000 in
theorem we129 {l1 l2 l3 : Int32} {D : sm_D} {M : sm_M} {R : sm_S} (h : jV_value l1 l2 l3 D M = some R) : sm_WJ smT smCl smSa shC f129 0 0 [.ref 18, .int l1, .int l2, .int l3] [] D M R := by
  have e : jV_value l1 l2 l3 D M = (sm_run shC smSa sm_nocal c129 false (fun a D M => some (a, D, M)) sm_noleaf 40 (c129.drop 0) [.ref 18, .int l1, .int l2, .int l3] [] D M : Option (sm_S)) := rfl
  exact sm_blk (ρ := sm_S) (gd := (fun v => v = R)) (kx := 129) (i := 0) smVC rfl (by decide) (sm_nocal_ok smT smCl smP smSa shC 0) (fun a D M v e1 e2 => by cases e1; exact e2.symm) (sm_noleaf_ok) rfl (e.symm.trans h) rfl
theorem m129 {l1 l2 l3 : Int32} {D : sm_D} {M : sm_M} {R : sm_S} (h : jV_value l1 l2 l3 D M = some R) : sm_MJ smT smCl smSa shC f129 0 [.ref 18, .int l1, .int l2, .int l3] D M R :=
  sm_met (by decide) (Nat.le_of_ble_eq_true rfl) (List.all_eq_true.mp rfl) (we129  h)

-- jV_ofVariable
set_option maxRecDepth 20000 in
set_option maxHeartbeats 4000000 in
theorem w130_62 {s0 : Int32} {g0 g1 g2 g3 g4 : Value} {D : sm_D} {M : sm_M} {R : sm_S} (h : jV_ofVariable_62 s0 D M = some R) : sm_WJ smT smCl smSa shC f130 0 62 [g0, g1, g2, g3, g4] [.int s0] D M R := by
  have e : jV_ofVariable_62 s0 D M = (sm_run shC smSa sm_nocal c130 false (fun a D M => some (a, D, M)) sm_noleaf 44 (c130.drop 38) [g0, g1, g2, g3, g4] [.int s0] D M : Option (sm_S)) := rfl
  exact sm_blk (ρ := sm_S) (gd := (fun v => v = R)) (kx := 130) (i := 38) smVC rfl (by decide) (sm_nocal_ok smT smCl smP smSa shC 0) (fun a D M v e1 e2 => by cases e1; exact e2.symm) (sm_noleaf_ok) rfl (e.symm.trans h) rfl
noncomputable def lf130_34 (D : sm_D) : Nat → List Value → List Value → sm_D → sm_M → Option (sm_S) := fun pc ls st D' M =>
  if pc = 62 then (match ls, st with
    | [gl0, gl1, gl2, gl3, gl4], [.int bs0] => (jV_ofVariable_62 bs0 D' M)
    | _, _ => none)
  else none
theorem ll130_34 (D : sm_D) {R : sm_S} : ∀ (pc : Nat) (ls st : List Value) (D' : sm_D) (M : sm_M) (v : sm_S), (lf130_34 D) pc ls st D' M = some v → (fun v => v = R) v → sm_WJ smT smCl smSa shC f130 0 pc ls st D' M R := by
  intro pc ls st D' M v h hv
  unfold lf130_34 at h
  split at h
  · rename_i hp0
    subst hp0
    split at h
    · skip
      have hv : v = R := hv
      subst hv
      exact w130_62  h
    · cases h
  · skip
    cases h
set_option maxRecDepth 20000 in
set_option maxHeartbeats 4000000 in
theorem w130_34 {l1 l3 : Int32} {g2 g4 : Value} {D : sm_D} {M : sm_M} {R : sm_S} (h : jV_ofVariable_34 l1 l3 D M = some R) : sm_WJ smT smCl smSa shC f130 0 34 [.ref 18, .int l1, g2, .int l3, g4] [] D M R := by
  have e : jV_ofVariable_34 l1 l3 D M = (sm_run shC smSa sm_nocal c130 false (fun a D M => some (a, D, M)) (lf130_34 D) 44 (c130.drop 20) [.ref 18, .int l1, g2, .int l3, g4] [] D M : Option (sm_S)) := rfl
  exact sm_blk (ρ := sm_S) (gd := (fun v => v = R)) (kx := 130) (i := 20) smVC rfl (by decide) (sm_nocal_ok smT smCl smP smSa shC 0) (fun a D M v e1 e2 => by cases e1; exact e2.symm) (ll130_34 D) rfl (e.symm.trans h) rfl
def lh130_5 (D : sm_D) (R : sm_S) (s : Int32 × Int32 × Int32 × sm_M) : Prop := ∀ (g2 : Value), sm_WJ smT smCl smSa shC f130 0 5 [.ref 18, .int (s.1), g2, .int (s.2.1), .int (s.2.2.1)] [] D (s.2.2.2) R
def gd130_5 (D : sm_D) (R : sm_S) (v : (Int32 × Int32 × Int32 × sm_M) ⊕ sm_S) : Prop := match v with
  | .inl s => lh130_5 D R s
  | .inr r => r = R
noncomputable def lf130_5 (D : sm_D) : Nat → List Value → List Value → sm_D → sm_M → Option ((Int32 × Int32 × Int32 × sm_M) ⊕ sm_S) := fun pc ls st D' M =>
  if pc = 5 then (match ls, st with
    | [.ref 18, .int bl1, gl2, .int bl3, .int bl4], [] => (sm_dq D' D (some (.inl (bl1, bl3, bl4, M))))
    | _, _ => none)
  else if pc = 34 then (match ls, st with
    | [.ref 18, .int bl1, gl2, .int bl3, gl4], [] => (sm_inr (jV_ofVariable_34 bl1 bl3 D' M))
    | _, _ => none)
  else none
theorem ll130_5 (D : sm_D) {R : sm_S} : ∀ (pc : Nat) (ls st : List Value) (D' : sm_D) (M : sm_M) (v : (Int32 × Int32 × Int32 × sm_M) ⊕ sm_S), (lf130_5 D) pc ls st D' M = some v → (gd130_5 D R) v → sm_WJ smT smCl smSa shC f130 0 pc ls st D' M R := by
  intro pc ls st D' M v h hv
  unfold lf130_5 at h
  split at h
  · rename_i hp0
    subst hp0
    split at h
    · skip
      replace h := sm_dq_inv h
      obtain ⟨he, h⟩ := h
      subst he
      cases h
      exact hv _
    · cases h
  · skip
    split at h
    · rename_i hp0
      subst hp0
      split at h
      · skip
        replace h := sm_inr_inv h
        obtain ⟨r, h, he⟩ := h
        subst he
        have hv : r = R := hv
        subst hv
        exact w130_34  h
      · cases h
    · skip
      cases h
set_option maxRecDepth 20000 in
set_option maxHeartbeats 4000000 in
theorem wc130_5 (D : sm_D) {l1 l3 l4 : Int32} {g2 : Value} {M : sm_M} {R : sm_S} {v : (Int32 × Int32 × Int32 × sm_M) ⊕ sm_S} (h : jV_ofVariable_5_c l1 l3 l4 D M = some v) (hv : (gd130_5 D R) v) : sm_WJ smT smCl smSa shC f130 0 5 [.ref 18, .int l1, g2, .int l3, .int l4] [] D M R := by
  have e : jV_ofVariable_5_c l1 l3 l4 D M = (sm_run shC smSa sm_nocal c130 false (fun a D M => some (.inr (a, D, M))) (lf130_5 D) 44 (c130.drop 4) [.ref 18, .int l1, g2, .int l3, .int l4] [] D M : Option ((Int32 × Int32 × Int32 × sm_M) ⊕ sm_S)) := rfl
  exact sm_blk (ρ := (Int32 × Int32 × Int32 × sm_M) ⊕ sm_S) (gd := (gd130_5 D R)) (kx := 130) (i := 4) smVC rfl (by decide) (sm_nocal_ok smT smCl smP smSa shC 0) (fun a D M v e1 e2 => by cases e1; exact e2.symm) (ll130_5 D) rfl (e.symm.trans h) hv
theorem w130_5 {l1 l3 l4 : Int32} {g2 : Value} {D : sm_D} {M : sm_M} {R : sm_S} (h : jV_ofVariable_5 l1 l3 l4 D M = some R) : sm_WJ smT smCl smSa shC f130 0 5 [.ref 18, .int l1, g2, .int l3, .int l4] [] D M R := by
  have hh : lh130_5 D R (l1, l3, l4, M) := by
    refine sm_lp_ind (b := jV_ofVariable_5_b D) (r := R) (lh130_5 D R) ?_ h
    intro s v hb h1 h2
    obtain ⟨z0, z1, z2, M1⟩ := s
    have hv : gd130_5 D R v := by
      cases v with
      | inl s' => exact h1 s' rfl
      | inr r => exact h2 r rfl
    intro g2
    exact wc130_5 D hb hv
  exact hh _
noncomputable def lf130_0 (D : sm_D) : Nat → List Value → List Value → sm_D → sm_M → Option (sm_S) := fun pc ls st D' M =>
  if pc = 5 then (match ls, st with
    | [.ref 18, .int bl1, gl2, .int bl3, .int bl4], [] => (jV_ofVariable_5 bl1 bl3 bl4 D' M)
    | _, _ => none)
  else none
theorem ll130_0 (D : sm_D) {R : sm_S} : ∀ (pc : Nat) (ls st : List Value) (D' : sm_D) (M : sm_M) (v : sm_S), (lf130_0 D) pc ls st D' M = some v → (fun v => v = R) v → sm_WJ smT smCl smSa shC f130 0 pc ls st D' M R := by
  intro pc ls st D' M v h hv
  unfold lf130_0 at h
  split at h
  · rename_i hp0
    subst hp0
    split at h
    · skip
      have hv : v = R := hv
      subst hv
      exact w130_5  h
    · cases h
  · skip
    cases h
set_option maxRecDepth 20000 in
set_option maxHeartbeats 4000000 in
theorem we130 {l1 l2 : Int32} {D : sm_D} {M : sm_M} {R : sm_S} (h : jV_ofVariable l1 l2 D M = some R) : sm_WJ smT smCl smSa shC f130 0 0 [.ref 18, .int l1, .int l2, .retAddr 0, .retAddr 0] [] D M R := by
  have e : jV_ofVariable l1 l2 D M = (sm_run shC smSa sm_nocal c130 false (fun a D M => some (a, D, M)) (lf130_0 D) 44 (c130.drop 0) [.ref 18, .int l1, .int l2, .retAddr 0, .retAddr 0] [] D M : Option (sm_S)) := rfl
  exact sm_blk (ρ := sm_S) (gd := (fun v => v = R)) (kx := 130) (i := 0) smVC rfl (by decide) (sm_nocal_ok smT smCl smP smSa shC 0) (fun a D M v e1 e2 => by cases e1; exact e2.symm) (ll130_0 D) rfl (e.symm.trans h) rfl
theorem m130 {l1 l2 : Int32} {D : sm_D} {M : sm_M} {R : sm_S} (h : jV_ofVariable l1 l2 D M = some R) : sm_MJ smT smCl smSa shC f130 0 [.ref 18, .int l1, .int l2] D M R :=
  sm_met (by decide) (Nat.le_of_ble_eq_true rfl) (List.all_eq_true.mp rfl) (we130  h)

-- jV_ofChoice
noncomputable def cal131 (rec : Int32 → Int32 → Int32 → sm_D → sm_M → Option sm_S) : sm_Cal := fun x as D M =>
  if x = 128 then (match as with
    | [.ref 18, .int a1, .int a2, .int a3] => (rec a1 a2 a3 D M)
    | _ => none)
  else none
theorem ck131 (rec : Int32 → Int32 → Int32 → sm_D → sm_M → Option sm_S) (dr : Nat) (hrec : ∀ (l1 l2 l3 : Int32) (D : sm_D) (M : sm_M) (R : sm_S), rec l1 l2 l3 D M = some R → sm_MJ smT smCl smSa shC f128 dr [.ref 18, .int l1, .int l2, .int l3] D M R) : sm_CalOk smT smCl smP smSa shC (dr + 1) (cal131 rec) := by
  intro x g as D M R hx h
  unfold cal131 at h
  split at h
  · rename_i hx'
    subst hx'
    cases (show smP[128]? = some f128 from rfl).symm.trans hx
    split at h
    · skip
      exact Or.inl ⟨dr, by omega, hrec _ _ _ _ _ _  h⟩
    · cases h
  · skip
    cases h
set_option maxRecDepth 20000 in
set_option maxHeartbeats 4000000 in
theorem w131_59 (rec : Int32 → Int32 → Int32 → sm_D → sm_M → Option sm_S) (dr : Nat) (hrec : ∀ (l1 l2 l3 : Int32) (D : sm_D) (M : sm_M) (R : sm_S), rec l1 l2 l3 D M = some R → sm_MJ smT smCl smSa shC f128 dr [.ref 18, .int l1, .int l2, .int l3] D M R) {l2 l3 s0 : Int32} {g1 g4 g5 : Value} {D : sm_D} {M : sm_M} {R : sm_S} (h : jV_ofChoice_59 rec l2 l3 s0 D M = some R) : sm_WJ smT smCl smSa shC f131 (dr + 1) 59 [.ref 18, g1, .int l2, .int l3, g4, g5] [.int s0] D M R := by
  have e : jV_ofChoice_59 rec l2 l3 s0 D M = (sm_run shC smSa (cal131 rec) c131 false (fun a D M => some (a, D, M)) sm_noleaf 47 (c131.drop 33) [.ref 18, g1, .int l2, .int l3, g4, g5] [.int s0] D M : Option (sm_S)) := rfl
  exact sm_blk (ρ := sm_S) (gd := (fun v => v = R)) (kx := 131) (i := 33) smVC rfl (by decide) (ck131 rec dr hrec) (fun a D M v e1 e2 => by cases e1; exact e2.symm) (sm_noleaf_ok) rfl (e.symm.trans h) rfl
noncomputable def lf131_0 (rec : Int32 → Int32 → Int32 → sm_D → sm_M → Option sm_S) (D : sm_D) : Nat → List Value → List Value → sm_D → sm_M → Option (sm_S) := fun pc ls st D' M =>
  if pc = 59 then (match ls, st with
    | [.ref 18, gl1, .int bl2, .int bl3, gl4, gl5], [.int bs0] => (jV_ofChoice_59 rec bl2 bl3 bs0 D' M)
    | _, _ => none)
  else none
theorem ll131_0 (rec : Int32 → Int32 → Int32 → sm_D → sm_M → Option sm_S) (dr : Nat) (hrec : ∀ (l1 l2 l3 : Int32) (D : sm_D) (M : sm_M) (R : sm_S), rec l1 l2 l3 D M = some R → sm_MJ smT smCl smSa shC f128 dr [.ref 18, .int l1, .int l2, .int l3] D M R) (D : sm_D) {R : sm_S} : ∀ (pc : Nat) (ls st : List Value) (D' : sm_D) (M : sm_M) (v : sm_S), (lf131_0 rec D) pc ls st D' M = some v → (fun v => v = R) v → sm_WJ smT smCl smSa shC f131 (dr + 1) pc ls st D' M R := by
  intro pc ls st D' M v h hv
  unfold lf131_0 at h
  split at h
  · rename_i hp0
    subst hp0
    split at h
    · skip
      have hv : v = R := hv
      subst hv
      exact w131_59 rec dr hrec h
    · cases h
  · skip
    cases h
set_option maxRecDepth 20000 in
set_option maxHeartbeats 4000000 in
theorem we131 (rec : Int32 → Int32 → Int32 → sm_D → sm_M → Option sm_S) (dr : Nat) (hrec : ∀ (l1 l2 l3 : Int32) (D : sm_D) (M : sm_M) (R : sm_S), rec l1 l2 l3 D M = some R → sm_MJ smT smCl smSa shC f128 dr [.ref 18, .int l1, .int l2, .int l3] D M R) {l1 l2 l3 : Int32} {D : sm_D} {M : sm_M} {R : sm_S} (h : jV_ofChoice rec l1 l2 l3 D M = some R) : sm_WJ smT smCl smSa shC f131 (dr + 1) 0 [.ref 18, .int l1, .int l2, .int l3, .retAddr 0, .retAddr 0] [] D M R := by
  have e : jV_ofChoice rec l1 l2 l3 D M = (sm_run shC smSa (cal131 rec) c131 false (fun a D M => some (a, D, M)) (lf131_0 rec D) 47 (c131.drop 0) [.ref 18, .int l1, .int l2, .int l3, .retAddr 0, .retAddr 0] [] D M : Option (sm_S)) := rfl
  exact sm_blk (ρ := sm_S) (gd := (fun v => v = R)) (kx := 131) (i := 0) smVC rfl (by decide) (ck131 rec dr hrec) (fun a D M v e1 e2 => by cases e1; exact e2.symm) (ll131_0 rec dr hrec D) rfl (e.symm.trans h) rfl
theorem m131 (rec : Int32 → Int32 → Int32 → sm_D → sm_M → Option sm_S) (dr : Nat) (hrec : ∀ (l1 l2 l3 : Int32) (D : sm_D) (M : sm_M) (R : sm_S), rec l1 l2 l3 D M = some R → sm_MJ smT smCl smSa shC f128 dr [.ref 18, .int l1, .int l2, .int l3] D M R) {l1 l2 l3 : Int32} {D : sm_D} {M : sm_M} {R : sm_S} (h : jV_ofChoice rec l1 l2 l3 D M = some R) : sm_MJ smT smCl smSa shC f131 (dr + 1) [.ref 18, .int l1, .int l2, .int l3] D M R :=
  sm_met (by decide) (Nat.le_of_ble_eq_true rfl) (List.all_eq_true.mp rfl) (we131 rec dr hrec h)

