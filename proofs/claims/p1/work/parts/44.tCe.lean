-- jW_translate
noncomputable def cal116  : sm_Cal := fun x as D M =>
  if x = 103 then (match as with
    | [.ref q0] => (sm_ga [q0] gC (jC_wipe q0 D M))
    | _ => none)
  else if x = 108 then (match as with
    | [.ref q0] => (sm_ga [q0] gC (jC_reserve q0 D M))
    | _ => none)
  else if x = 109 then (match as with
    | [.ref q0, .int a1, .int a2, .int a3, .int a4] => (sm_ga [q0] gC (jC_open q0 a1 a2 a3 a4 D M))
    | _ => none)
  else if x = 117 then (match as, D with
    | [.ref 24, .int a1, .int a2], [e0, e1, e2, e3, e4] => (sm_ga [e4] gC (jW_write 8 e0 e1 e2 e3 e4 a1 a2 M))
    | _, _ => none)
  else if x = 113 then (match as with
    | [.ref q0, .int a1, .int a2, .int a3, .int a4] => (sm_ga [q0] gC (jC_put q0 a1 a2 a3 a4 D M))
    | _ => none)
  else if x = 124 then (match as, D with
    | [.ref 24, .int a1, .int a2, .int a3], [e0, e1, e2, e3, e4] => (sm_ga [e4] gC (jW_writeBody e0 e1 e2 e3 e4 a1 a2 a3 M))
    | _, _ => none)
  else none
theorem ck116  : sm_CalOk smT smCl smP smSa shC 34 cal116 := by
  intro x g as D M R hx h
  unfold cal116 at h
  by_cases hx' : x = 103
  · subst hx'
    rw [if_pos (show (103 : Nat) = 103 from rfl)] at h
    cases (show smP[103]? = some f103 from rfl).symm.trans hx
    split at h
    · replace h := sm_ga_inv h
      obtain ⟨h1, h⟩ := h
      exact Or.inl ⟨0, by omega, m103  h1 h⟩
    · cases h
  · rw [if_neg hx'] at h
    by_cases hx' : x = 108
    · subst hx'
      rw [if_pos (show (108 : Nat) = 108 from rfl)] at h
      cases (show smP[108]? = some f108 from rfl).symm.trans hx
      split at h
      · replace h := sm_ga_inv h
        obtain ⟨h1, h⟩ := h
        exact Or.inl ⟨0, by omega, m108  h1 h⟩
      · cases h
    · rw [if_neg hx'] at h
      by_cases hx' : x = 109
      · subst hx'
        rw [if_pos (show (109 : Nat) = 109 from rfl)] at h
        cases (show smP[109]? = some f109 from rfl).symm.trans hx
        split at h
        · replace h := sm_ga_inv h
          obtain ⟨h1, h⟩ := h
          exact Or.inl ⟨2, by omega, m109  h1 h⟩
        · cases h
      · rw [if_neg hx'] at h
        by_cases hx' : x = 117
        · subst hx'
          rw [if_pos (show (117 : Nat) = 117 from rfl)] at h
          cases (show smP[117]? = some f117 from rfl).symm.trans hx
          split at h
          · replace h := sm_ga_inv h
            obtain ⟨h1, h⟩ := h
            exact Or.inl ⟨8 * 4, by omega, m117 8 h1 h⟩
          · cases h
        · rw [if_neg hx'] at h
          by_cases hx' : x = 113
          · subst hx'
            rw [if_pos (show (113 : Nat) = 113 from rfl)] at h
            cases (show smP[113]? = some f113 from rfl).symm.trans hx
            split at h
            · replace h := sm_ga_inv h
              obtain ⟨h1, h⟩ := h
              exact Or.inl ⟨1, by omega, m113  h1 h⟩
            · cases h
          · rw [if_neg hx'] at h
            by_cases hx' : x = 124
            · subst hx'
              rw [if_pos (show (124 : Nat) = 124 from rfl)] at h
              cases (show smP[124]? = some f124 from rfl).symm.trans hx
              split at h
              · replace h := sm_ga_inv h
                obtain ⟨h1, h⟩ := h
                exact Or.inl ⟨33, by omega, m124  h1 h⟩
              · cases h
            · rw [if_neg hx'] at h
              cases h
set_option maxRecDepth 20000 in
set_option maxHeartbeats 4000000 in
theorem w116_125 (p d0 d1 d2 d3 d4 : Nat) (hp : [p] ∈ gC) {s1 : Int32} {g1 g2 g3 : Value} {M : sm_M} {R : sm_S} (h : jW_translate_125 p d0 d1 d2 d3 d4 s1 M = some R) : sm_WJ smT smCl smSa shC f116 34 125 [.ref 24, g1, g2, g3] [.int s1, .ref p] [d0, d1, d2, d3, p] M R := by
  rcases gC_inv hp with rfl | rfl
  · have e : jW_translate_125 40 d0 d1 d2 d3 d4 s1 M = (sm_run shC smSa cal116 c116 true (fun a D M => some (a, D, M)) sm_noleaf 78 (c116.drop 68) [.ref 24, g1, g2, g3] [.int s1, .ref 40] [d0, d1, d2, d3, 40] M : Option (sm_S)) := rfl
    exact sm_blk (ρ := sm_S) (gd := (fun v => v = R)) (kx := 116) (i := 68) smVC rfl (by decide) ck116 (fun a D M v e1 e2 => by cases e1; exact e2.symm) (sm_noleaf_ok) rfl (e.symm.trans h) rfl
  · have e : jW_translate_125 50 d0 d1 d2 d3 d4 s1 M = (sm_run shC smSa cal116 c116 true (fun a D M => some (a, D, M)) sm_noleaf 78 (c116.drop 68) [.ref 24, g1, g2, g3] [.int s1, .ref 50] [d0, d1, d2, d3, 50] M : Option (sm_S)) := rfl
    exact sm_blk (ρ := sm_S) (gd := (fun v => v = R)) (kx := 116) (i := 68) smVC rfl (by decide) ck116 (fun a D M v e1 e2 => by cases e1; exact e2.symm) (sm_noleaf_ok) rfl (e.symm.trans h) rfl
noncomputable def lf116_106 (p d0 d1 d2 d3 d4 : Nat) : Nat → List Value → List Value → sm_D → sm_M → Option (sm_S) := fun pc ls st D' M =>
  if pc = 125 then (match ls, st with
    | [.ref 24, gl1, gl2, gl3], [.int bs1, .ref rs0] => (sm_eqp rs0 p (sm_dq D' [d0, d1, d2, d3, p] (jW_translate_125 p d0 d1 d2 d3 d4 bs1 M)))
    | _, _ => none)
  else none
theorem ll116_106 (p d0 d1 d2 d3 d4 : Nat) (hp : [p] ∈ gC) {R : sm_S} : ∀ (pc : Nat) (ls st : List Value) (D' : sm_D) (M : sm_M) (v : sm_S), (lf116_106 p d0 d1 d2 d3 d4) pc ls st D' M = some v → (fun v => v = R) v → sm_WJ smT smCl smSa shC f116 34 pc ls st D' M R := by
  intro pc ls st D' M v h hv
  unfold lf116_106 at h
  by_cases hp0 : pc = 125
  · subst hp0
    rw [if_pos (show (125 : Nat) = 125 from rfl)] at h
    split at h
    · skip
      replace h := sm_eqp_inv h
      obtain ⟨he, h⟩ := h
      subst he
      replace h := sm_dq_inv h
      obtain ⟨he, h⟩ := h
      subst he
      have hv : v = R := hv
      subst hv
      exact w116_125 _ _ _ _ _ _ hp h
    · cases h
  · rw [if_neg hp0] at h
    cases h
set_option maxRecDepth 20000 in
set_option maxHeartbeats 4000000 in
theorem w116_106 (p d0 d1 d2 d3 d4 : Nat) (hp : [p] ∈ gC) {g1 g2 g3 : Value} {M : sm_M} {R : sm_S} (h : jW_translate_106 p d0 d1 d2 d3 d4 M = some R) : sm_WJ smT smCl smSa shC f116 34 106 [.ref 24, g1, g2, g3] [] [d0, d1, d2, d3, p] M R := by
  rcases gC_inv hp with rfl | rfl
  · have e : jW_translate_106 40 d0 d1 d2 d3 d4 M = (sm_run shC smSa cal116 c116 true (fun a D M => some (a, D, M)) (lf116_106 40 d0 d1 d2 d3 d4) 78 (c116.drop 59) [.ref 24, g1, g2, g3] [] [d0, d1, d2, d3, 40] M : Option (sm_S)) := rfl
    exact sm_blk (ρ := sm_S) (gd := (fun v => v = R)) (kx := 116) (i := 59) smVC rfl (by decide) ck116 (fun a D M v e1 e2 => by cases e1; exact e2.symm) (ll116_106 40 d0 d1 d2 d3 d4 (by decide)) rfl (e.symm.trans h) rfl
  · have e : jW_translate_106 50 d0 d1 d2 d3 d4 M = (sm_run shC smSa cal116 c116 true (fun a D M => some (a, D, M)) (lf116_106 50 d0 d1 d2 d3 d4) 78 (c116.drop 59) [.ref 24, g1, g2, g3] [] [d0, d1, d2, d3, 50] M : Option (sm_S)) := rfl
    exact sm_blk (ρ := sm_S) (gd := (fun v => v = R)) (kx := 116) (i := 59) smVC rfl (by decide) ck116 (fun a D M v e1 e2 => by cases e1; exact e2.symm) (ll116_106 50 d0 d1 d2 d3 d4 (by decide)) rfl (e.symm.trans h) rfl
def lh116_60 (p d0 d1 d2 d3 d4 : Nat) (R : sm_S) (s : Int32 × sm_M) : Prop := ∀ (g1 g2 : Value), sm_WJ smT smCl smSa shC f116 34 60 [.ref 24, g1, g2, .int (s.1)] [] [d0, d1, d2, d3, p] (s.2) R
def gd116_60 (p d0 d1 d2 d3 d4 : Nat) (R : sm_S) (v : (Int32 × sm_M) ⊕ sm_S) : Prop := match v with
  | .inl s => lh116_60 p d0 d1 d2 d3 d4 R s
  | .inr r => r = R
noncomputable def lf116_60 (p d0 d1 d2 d3 d4 : Nat) : Nat → List Value → List Value → sm_D → sm_M → Option ((Int32 × sm_M) ⊕ sm_S) := fun pc ls st D' M =>
  if pc = 60 then (match ls, st with
    | [.ref 24, gl1, gl2, .int bl3], [] => (sm_dq D' [d0, d1, d2, d3, p] (some (.inl (bl3, M))))
    | _, _ => none)
  else if pc = 106 then (match ls, st with
    | [.ref 24, gl1, gl2, gl3], [] => (sm_dq D' [d0, d1, d2, d3, p] (sm_inr (jW_translate_106 p d0 d1 d2 d3 d4 M)))
    | _, _ => none)
  else none
theorem ll116_60 (p d0 d1 d2 d3 d4 : Nat) (hp : [p] ∈ gC) {R : sm_S} : ∀ (pc : Nat) (ls st : List Value) (D' : sm_D) (M : sm_M) (v : (Int32 × sm_M) ⊕ sm_S), (lf116_60 p d0 d1 d2 d3 d4) pc ls st D' M = some v → (gd116_60 p d0 d1 d2 d3 d4 R) v → sm_WJ smT smCl smSa shC f116 34 pc ls st D' M R := by
  intro pc ls st D' M v h hv
  unfold lf116_60 at h
  by_cases hp0 : pc = 60
  · subst hp0
    rw [if_pos (show (60 : Nat) = 60 from rfl)] at h
    split at h
    · skip
      replace h := sm_dq_inv h
      obtain ⟨he, h⟩ := h
      subst he
      cases h
      exact hv _ _
    · cases h
  · rw [if_neg hp0] at h
    by_cases hp0 : pc = 106
    · subst hp0
      rw [if_pos (show (106 : Nat) = 106 from rfl)] at h
      split at h
      · skip
        replace h := sm_dq_inv h
        obtain ⟨he, h⟩ := h
        subst he
        replace h := sm_inr_inv h
        obtain ⟨r, h, he⟩ := h
        subst he
        have hv : r = R := hv
        subst hv
        exact w116_106 _ _ _ _ _ _ hp h
      · cases h
    · rw [if_neg hp0] at h
      cases h
set_option maxRecDepth 20000 in
set_option maxHeartbeats 4000000 in
theorem wc116_60 (p d0 d1 d2 d3 d4 : Nat) (hp : [p] ∈ gC) {l3 : Int32} {g1 g2 : Value} {M : sm_M} {R : sm_S} {v : (Int32 × sm_M) ⊕ sm_S} (h : jW_translate_60_c p d0 d1 d2 d3 d4 l3 M = some v) (hv : (gd116_60 p d0 d1 d2 d3 d4 R) v) : sm_WJ smT smCl smSa shC f116 34 60 [.ref 24, g1, g2, .int l3] [] [d0, d1, d2, d3, p] M R := by
  rcases gC_inv hp with rfl | rfl
  · have e : jW_translate_60_c 40 d0 d1 d2 d3 d4 l3 M = (sm_run shC smSa cal116 c116 true (fun a D M => some (.inr (a, D, M))) (lf116_60 40 d0 d1 d2 d3 d4) 78 (c116.drop 35) [.ref 24, g1, g2, .int l3] [] [d0, d1, d2, d3, 40] M : Option ((Int32 × sm_M) ⊕ sm_S)) := rfl
    exact sm_blk (ρ := (Int32 × sm_M) ⊕ sm_S) (gd := (gd116_60 40 d0 d1 d2 d3 d4 R)) (kx := 116) (i := 35) smVC rfl (by decide) ck116 (fun a D M v e1 e2 => by cases e1; exact e2.symm) (ll116_60 40 d0 d1 d2 d3 d4 (by decide)) rfl (e.symm.trans h) hv
  · have e : jW_translate_60_c 50 d0 d1 d2 d3 d4 l3 M = (sm_run shC smSa cal116 c116 true (fun a D M => some (.inr (a, D, M))) (lf116_60 50 d0 d1 d2 d3 d4) 78 (c116.drop 35) [.ref 24, g1, g2, .int l3] [] [d0, d1, d2, d3, 50] M : Option ((Int32 × sm_M) ⊕ sm_S)) := rfl
    exact sm_blk (ρ := (Int32 × sm_M) ⊕ sm_S) (gd := (gd116_60 50 d0 d1 d2 d3 d4 R)) (kx := 116) (i := 35) smVC rfl (by decide) ck116 (fun a D M v e1 e2 => by cases e1; exact e2.symm) (ll116_60 50 d0 d1 d2 d3 d4 (by decide)) rfl (e.symm.trans h) hv
theorem w116_60 (p d0 d1 d2 d3 d4 : Nat) (hp : [p] ∈ gC) {l3 : Int32} {g1 g2 : Value} {M : sm_M} {R : sm_S} (h : jW_translate_60 p d0 d1 d2 d3 d4 l3 M = some R) : sm_WJ smT smCl smSa shC f116 34 60 [.ref 24, g1, g2, .int l3] [] [d0, d1, d2, d3, p] M R := by
  have hh : lh116_60 p d0 d1 d2 d3 d4 R (l3, M) := by
    refine sm_lp_ind (b := jW_translate_60_b p d0 d1 d2 d3 d4) (r := R) (lh116_60 p d0 d1 d2 d3 d4 R) ?_ h
    intro s v hb h1 h2
    obtain ⟨z0, M1⟩ := s
    have hv : gd116_60 p d0 d1 d2 d3 d4 R v := by
      cases v with
      | inl s' => exact h1 s' rfl
      | inr r => exact h2 r rfl
    intro g1 g2
    exact wc116_60 p d0 d1 d2 d3 d4 hp hb hv
  exact hh _ _
noncomputable def lf116_0 (p d0 d1 d2 d3 d4 : Nat) : Nat → List Value → List Value → sm_D → sm_M → Option (sm_S) := fun pc ls st D' M =>
  if pc = 60 then (match ls, st with
    | [.ref 24, gl1, gl2, .int bl3], [] => (sm_dq D' [d0, d1, d2, d3, p] (jW_translate_60 p d0 d1 d2 d3 d4 bl3 M))
    | _, _ => none)
  else none
theorem ll116_0 (p d0 d1 d2 d3 d4 : Nat) (hp : [p] ∈ gC) {R : sm_S} : ∀ (pc : Nat) (ls st : List Value) (D' : sm_D) (M : sm_M) (v : sm_S), (lf116_0 p d0 d1 d2 d3 d4) pc ls st D' M = some v → (fun v => v = R) v → sm_WJ smT smCl smSa shC f116 34 pc ls st D' M R := by
  intro pc ls st D' M v h hv
  unfold lf116_0 at h
  by_cases hp0 : pc = 60
  · subst hp0
    rw [if_pos (show (60 : Nat) = 60 from rfl)] at h
    split at h
    · skip
      replace h := sm_dq_inv h
      obtain ⟨he, h⟩ := h
      subst he
      have hv : v = R := hv
      subst hv
      exact w116_60 _ _ _ _ _ _ hp h
    · cases h
  · rw [if_neg hp0] at h
    cases h
set_option maxRecDepth 20000 in
set_option maxHeartbeats 4000000 in
theorem we116 (p d0 d1 d2 d3 d4 : Nat) (hp : [p] ∈ gC) {l1 : Int32} {M : sm_M} {R : sm_S} (h : jW_translate p d0 d1 d2 d3 d4 l1 M = some R) : sm_WJ smT smCl smSa shC f116 34 0 [.ref 24, .int l1, .ref p, .retAddr 0] [] [d0, d1, d2, d3, d4] M R := by
  rcases gC_inv hp with rfl | rfl
  · have e : jW_translate 40 d0 d1 d2 d3 d4 l1 M = (sm_run shC smSa cal116 c116 true (fun a D M => some (a, D, M)) (lf116_0 40 d0 d1 d2 d3 d4) 78 (c116.drop 0) [.ref 24, .int l1, .ref 40, .retAddr 0] [] [d0, d1, d2, d3, d4] M : Option (sm_S)) := rfl
    exact sm_blk (ρ := sm_S) (gd := (fun v => v = R)) (kx := 116) (i := 0) smVC rfl (by decide) ck116 (fun a D M v e1 e2 => by cases e1; exact e2.symm) (ll116_0 40 d0 d1 d2 d3 d4 (by decide)) rfl (e.symm.trans h) rfl
  · have e : jW_translate 50 d0 d1 d2 d3 d4 l1 M = (sm_run shC smSa cal116 c116 true (fun a D M => some (a, D, M)) (lf116_0 50 d0 d1 d2 d3 d4) 78 (c116.drop 0) [.ref 24, .int l1, .ref 50, .retAddr 0] [] [d0, d1, d2, d3, d4] M : Option (sm_S)) := rfl
    exact sm_blk (ρ := sm_S) (gd := (fun v => v = R)) (kx := 116) (i := 0) smVC rfl (by decide) ck116 (fun a D M v e1 e2 => by cases e1; exact e2.symm) (ll116_0 50 d0 d1 d2 d3 d4 (by decide)) rfl (e.symm.trans h) rfl
theorem m116 {p d0 d1 d2 d3 d4 : Nat} (hp : [p] ∈ gC) {l1 : Int32} {M : sm_M} {R : sm_S} (h : jW_translate p d0 d1 d2 d3 d4 l1 M = some R) : sm_MJ smT smCl smSa shC f116 34 [.ref 24, .int l1, .ref p] [d0, d1, d2, d3, d4] M R :=
  sm_met (by decide) (Nat.le_of_ble_eq_true rfl) (List.all_eq_true.mp rfl) (we116 p d0 d1 d2 d3 d4 hp h)

-- jV_value
set_option maxRecDepth 20000 in
set_option maxHeartbeats 4000000 in
theorem we129 {l1 l2 l3 : Int32} {D : sm_D} {M : sm_M} {R : sm_S} (h : jV_value l1 l2 l3 D M = some R) : sm_WJ smT smCl smSa shC f129 0 0 [.ref 18, .int l1, .int l2, .int l3] [] D M R := by
  have e : jV_value l1 l2 l3 D M = (sm_run shC smSa sm_nocal c129 false (fun a D M => some (a, D, M)) sm_noleaf 40 (c129.drop 0) [.ref 18, .int l1, .int l2, .int l3] [] D M : Option (sm_S)) := rfl
  exact sm_blk (ρ := sm_S) (gd := (fun v => v = R)) (kx := 129) (i := 0) smVC rfl (by decide) (sm_nocal_ok smT smCl smP smSa shC 0) (fun a D M v e1 e2 => by cases e1; exact e2.symm) (sm_noleaf_ok) rfl (e.symm.trans h) rfl
theorem m129 {l1 l2 l3 : Int32} {D : sm_D} {M : sm_M} {R : sm_S} (h : jV_value l1 l2 l3 D M = some R) : sm_MJ smT smCl smSa shC f129 0 [.ref 18, .int l1, .int l2, .int l3] D M R :=
  sm_met (by decide) (Nat.le_of_ble_eq_true rfl) (List.all_eq_true.mp rfl) (we129  h)

-- jV_ofVariable
set_option maxRecDepth 20000 in
set_option maxHeartbeats 4000000 in
theorem w130_62 {s0 : Int32} {g0 g1 g2 g3 g4 : Value} {D : sm_D} {M : sm_M} {R : sm_S} (h : jV_ofVariable_62 s0 D M = some R) : sm_WJ smT smCl smSa shC f130 0 62 [g0, g1, g2, g3, g4] [.int s0] D M R := by
  have e : jV_ofVariable_62 s0 D M = (sm_run shC smSa sm_nocal c130 false (fun a D M => some (a, D, M)) sm_noleaf 44 (c130.drop 38) [g0, g1, g2, g3, g4] [.int s0] D M : Option (sm_S)) := rfl
  exact sm_blk (ρ := sm_S) (gd := (fun v => v = R)) (kx := 130) (i := 38) smVC rfl (by decide) (sm_nocal_ok smT smCl smP smSa shC 0) (fun a D M v e1 e2 => by cases e1; exact e2.symm) (sm_noleaf_ok) rfl (e.symm.trans h) rfl
noncomputable def lf130_34 (D : sm_D) : Nat → List Value → List Value → sm_D → sm_M → Option (sm_S) := fun pc ls st D' M =>
  if pc = 62 then (match ls, st with
    | [gl0, gl1, gl2, gl3, gl4], [.int bs0] => (jV_ofVariable_62 bs0 D' M)
    | _, _ => none)
  else none
theorem ll130_34 (D : sm_D) {R : sm_S} : ∀ (pc : Nat) (ls st : List Value) (D' : sm_D) (M : sm_M) (v : sm_S), (lf130_34 D) pc ls st D' M = some v → (fun v => v = R) v → sm_WJ smT smCl smSa shC f130 0 pc ls st D' M R := by
  intro pc ls st D' M v h hv
  unfold lf130_34 at h
  by_cases hp0 : pc = 62
  · subst hp0
    rw [if_pos (show (62 : Nat) = 62 from rfl)] at h
    split at h
    · skip
      have hv : v = R := hv
      subst hv
      exact w130_62  h
    · cases h
  · rw [if_neg hp0] at h
    cases h
set_option maxRecDepth 20000 in
set_option maxHeartbeats 4000000 in
theorem w130_34 {l1 l3 : Int32} {g2 g4 : Value} {D : sm_D} {M : sm_M} {R : sm_S} (h : jV_ofVariable_34 l1 l3 D M = some R) : sm_WJ smT smCl smSa shC f130 0 34 [.ref 18, .int l1, g2, .int l3, g4] [] D M R := by
  have e : jV_ofVariable_34 l1 l3 D M = (sm_run shC smSa sm_nocal c130 false (fun a D M => some (a, D, M)) (lf130_34 D) 44 (c130.drop 20) [.ref 18, .int l1, g2, .int l3, g4] [] D M : Option (sm_S)) := rfl
  exact sm_blk (ρ := sm_S) (gd := (fun v => v = R)) (kx := 130) (i := 20) smVC rfl (by decide) (sm_nocal_ok smT smCl smP smSa shC 0) (fun a D M v e1 e2 => by cases e1; exact e2.symm) (ll130_34 D) rfl (e.symm.trans h) rfl
def lh130_5 (D : sm_D) (R : sm_S) (s : Int32 × Int32 × Int32 × sm_M) : Prop := ∀ (g2 : Value), sm_WJ smT smCl smSa shC f130 0 5 [.ref 18, .int (s.1), g2, .int (s.2.1), .int (s.2.2.1)] [] D (s.2.2.2) R
def gd130_5 (D : sm_D) (R : sm_S) (v : (Int32 × Int32 × Int32 × sm_M) ⊕ sm_S) : Prop := match v with
  | .inl s => lh130_5 D R s
  | .inr r => r = R
noncomputable def lf130_5 (D : sm_D) : Nat → List Value → List Value → sm_D → sm_M → Option ((Int32 × Int32 × Int32 × sm_M) ⊕ sm_S) := fun pc ls st D' M =>
  if pc = 5 then (match ls, st with
    | [.ref 18, .int bl1, gl2, .int bl3, .int bl4], [] => (sm_dq D' D (some (.inl (bl1, bl3, bl4, M))))
    | _, _ => none)
  else if pc = 34 then (match ls, st with
    | [.ref 18, .int bl1, gl2, .int bl3, gl4], [] => (sm_inr (jV_ofVariable_34 bl1 bl3 D' M))
    | _, _ => none)
  else none
theorem ll130_5 (D : sm_D) {R : sm_S} : ∀ (pc : Nat) (ls st : List Value) (D' : sm_D) (M : sm_M) (v : (Int32 × Int32 × Int32 × sm_M) ⊕ sm_S), (lf130_5 D) pc ls st D' M = some v → (gd130_5 D R) v → sm_WJ smT smCl smSa shC f130 0 pc ls st D' M R := by
  intro pc ls st D' M v h hv
  unfold lf130_5 at h
  by_cases hp0 : pc = 5
  · subst hp0
    rw [if_pos (show (5 : Nat) = 5 from rfl)] at h
    split at h
    · skip
      replace h := sm_dq_inv h
      obtain ⟨he, h⟩ := h
      subst he
      cases h
      exact hv _
    · cases h
  · rw [if_neg hp0] at h
    by_cases hp0 : pc = 34
    · subst hp0
      rw [if_pos (show (34 : Nat) = 34 from rfl)] at h
      split at h
      · skip
        replace h := sm_inr_inv h
        obtain ⟨r, h, he⟩ := h
        subst he
        have hv : r = R := hv
        subst hv
        exact w130_34  h
      · cases h
    · rw [if_neg hp0] at h
      cases h
set_option maxRecDepth 20000 in
set_option maxHeartbeats 4000000 in
theorem wc130_5 (D : sm_D) {l1 l3 l4 : Int32} {g2 : Value} {M : sm_M} {R : sm_S} {v : (Int32 × Int32 × Int32 × sm_M) ⊕ sm_S} (h : jV_ofVariable_5_c l1 l3 l4 D M = some v) (hv : (gd130_5 D R) v) : sm_WJ smT smCl smSa shC f130 0 5 [.ref 18, .int l1, g2, .int l3, .int l4] [] D M R := by
  have e : jV_ofVariable_5_c l1 l3 l4 D M = (sm_run shC smSa sm_nocal c130 false (fun a D M => some (.inr (a, D, M))) (lf130_5 D) 44 (c130.drop 4) [.ref 18, .int l1, g2, .int l3, .int l4] [] D M : Option ((Int32 × Int32 × Int32 × sm_M) ⊕ sm_S)) := rfl
  exact sm_blk (ρ := (Int32 × Int32 × Int32 × sm_M) ⊕ sm_S) (gd := (gd130_5 D R)) (kx := 130) (i := 4) smVC rfl (by decide) (sm_nocal_ok smT smCl smP smSa shC 0) (fun a D M v e1 e2 => by cases e1; exact e2.symm) (ll130_5 D) rfl (e.symm.trans h) hv
theorem w130_5 {l1 l3 l4 : Int32} {g2 : Value} {D : sm_D} {M : sm_M} {R : sm_S} (h : jV_ofVariable_5 l1 l3 l4 D M = some R) : sm_WJ smT smCl smSa shC f130 0 5 [.ref 18, .int l1, g2, .int l3, .int l4] [] D M R := by
  have hh : lh130_5 D R (l1, l3, l4, M) := by
    refine sm_lp_ind (b := jV_ofVariable_5_b D) (r := R) (lh130_5 D R) ?_ h
    intro s v hb h1 h2
    obtain ⟨z0, z1, z2, M1⟩ := s
    have hv : gd130_5 D R v := by
      cases v with
      | inl s' => exact h1 s' rfl
      | inr r => exact h2 r rfl
    intro g2
    exact wc130_5 D hb hv
  exact hh _
noncomputable def lf130_0 (D : sm_D) : Nat → List Value → List Value → sm_D → sm_M → Option (sm_S) := fun pc ls st D' M =>
  if pc = 5 then (match ls, st with
    | [.ref 18, .int bl1, gl2, .int bl3, .int bl4], [] => (jV_ofVariable_5 bl1 bl3 bl4 D' M)
    | _, _ => none)
  else none
theorem ll130_0 (D : sm_D) {R : sm_S} : ∀ (pc : Nat) (ls st : List Value) (D' : sm_D) (M : sm_M) (v : sm_S), (lf130_0 D) pc ls st D' M = some v → (fun v => v = R) v → sm_WJ smT smCl smSa shC f130 0 pc ls st D' M R := by
  intro pc ls st D' M v h hv
  unfold lf130_0 at h
  by_cases hp0 : pc = 5
  · subst hp0
    rw [if_pos (show (5 : Nat) = 5 from rfl)] at h
    split at h
    · skip
      have hv : v = R := hv
      subst hv
      exact w130_5  h
    · cases h
  · rw [if_neg hp0] at h
    cases h
set_option maxRecDepth 20000 in
set_option maxHeartbeats 4000000 in
theorem we130 {l1 l2 : Int32} {D : sm_D} {M : sm_M} {R : sm_S} (h : jV_ofVariable l1 l2 D M = some R) : sm_WJ smT smCl smSa shC f130 0 0 [.ref 18, .int l1, .int l2, .retAddr 0, .retAddr 0] [] D M R := by
  have e : jV_ofVariable l1 l2 D M = (sm_run shC smSa sm_nocal c130 false (fun a D M => some (a, D, M)) (lf130_0 D) 44 (c130.drop 0) [.ref 18, .int l1, .int l2, .retAddr 0, .retAddr 0] [] D M : Option (sm_S)) := rfl
  exact sm_blk (ρ := sm_S) (gd := (fun v => v = R)) (kx := 130) (i := 0) smVC rfl (by decide) (sm_nocal_ok smT smCl smP smSa shC 0) (fun a D M v e1 e2 => by cases e1; exact e2.symm) (ll130_0 D) rfl (e.symm.trans h) rfl
theorem m130 {l1 l2 : Int32} {D : sm_D} {M : sm_M} {R : sm_S} (h : jV_ofVariable l1 l2 D M = some R) : sm_MJ smT smCl smSa shC f130 0 [.ref 18, .int l1, .int l2] D M R :=
  sm_met (by decide) (Nat.le_of_ble_eq_true rfl) (List.all_eq_true.mp rfl) (we130  h)

-- jV_ofChoice
noncomputable def cal131 (rec : Int32 → Int32 → Int32 → sm_D → sm_M → Option sm_S) : sm_Cal := fun x as D M =>
  if x = 128 then (match as with
    | [.ref 18, .int a1, .int a2, .int a3] => (rec a1 a2 a3 D M)
    | _ => none)
  else none
theorem ck131 (rec : Int32 → Int32 → Int32 → sm_D → sm_M → Option sm_S) (dr : Nat) (hrec : ∀ (l1 l2 l3 : Int32) (D : sm_D) (M : sm_M) (R : sm_S), rec l1 l2 l3 D M = some R → sm_MJ smT smCl smSa shC f128 dr [.ref 18, .int l1, .int l2, .int l3] D M R) : sm_CalOk smT smCl smP smSa shC (dr + 1) (cal131 rec) := by
  intro x g as D M R hx h
  unfold cal131 at h
  by_cases hx' : x = 128
  · subst hx'
    rw [if_pos (show (128 : Nat) = 128 from rfl)] at h
    cases (show smP[128]? = some f128 from rfl).symm.trans hx
    split at h
    · skip
      exact Or.inl ⟨dr, by omega, hrec _ _ _ _ _ _  h⟩
    · cases h
  · rw [if_neg hx'] at h
    cases h
set_option maxRecDepth 20000 in
set_option maxHeartbeats 4000000 in
theorem w131_59 (rec : Int32 → Int32 → Int32 → sm_D → sm_M → Option sm_S) (dr : Nat) (hrec : ∀ (l1 l2 l3 : Int32) (D : sm_D) (M : sm_M) (R : sm_S), rec l1 l2 l3 D M = some R → sm_MJ smT smCl smSa shC f128 dr [.ref 18, .int l1, .int l2, .int l3] D M R) {l2 l3 s0 : Int32} {g1 g4 g5 : Value} {D : sm_D} {M : sm_M} {R : sm_S} (h : jV_ofChoice_59 rec l2 l3 s0 D M = some R) : sm_WJ smT smCl smSa shC f131 (dr + 1) 59 [.ref 18, g1, .int l2, .int l3, g4, g5] [.int s0] D M R := by
  have e : jV_ofChoice_59 rec l2 l3 s0 D M = (sm_run shC smSa (cal131 rec) c131 false (fun a D M => some (a, D, M)) sm_noleaf 47 (c131.drop 33) [.ref 18, g1, .int l2, .int l3, g4, g5] [.int s0] D M : Option (sm_S)) := rfl
  exact sm_blk (ρ := sm_S) (gd := (fun v => v = R)) (kx := 131) (i := 33) smVC rfl (by decide) (ck131 rec dr hrec) (fun a D M v e1 e2 => by cases e1; exact e2.symm) (sm_noleaf_ok) rfl (e.symm.trans h) rfl
noncomputable def lf131_0 (rec : Int32 → Int32 → Int32 → sm_D → sm_M → Option sm_S) (D : sm_D) : Nat → List Value → List Value → sm_D → sm_M → Option (sm_S) := fun pc ls st D' M =>
  if pc = 59 then (match ls, st with
    | [.ref 18, gl1, .int bl2, .int bl3, gl4, gl5], [.int bs0] => (jV_ofChoice_59 rec bl2 bl3 bs0 D' M)
    | _, _ => none)
  else none
theorem ll131_0 (rec : Int32 → Int32 → Int32 → sm_D → sm_M → Option sm_S) (dr : Nat) (hrec : ∀ (l1 l2 l3 : Int32) (D : sm_D) (M : sm_M) (R : sm_S), rec l1 l2 l3 D M = some R → sm_MJ smT smCl smSa shC f128 dr [.ref 18, .int l1, .int l2, .int l3] D M R) (D : sm_D) {R : sm_S} : ∀ (pc : Nat) (ls st : List Value) (D' : sm_D) (M : sm_M) (v : sm_S), (lf131_0 rec D) pc ls st D' M = some v → (fun v => v = R) v → sm_WJ smT smCl smSa shC f131 (dr + 1) pc ls st D' M R := by
  intro pc ls st D' M v h hv
  unfold lf131_0 at h
  by_cases hp0 : pc = 59
  · subst hp0
    rw [if_pos (show (59 : Nat) = 59 from rfl)] at h
    split at h
    · skip
      have hv : v = R := hv
      subst hv
      exact w131_59 rec dr hrec h
    · cases h
  · rw [if_neg hp0] at h
    cases h
set_option maxRecDepth 20000 in
set_option maxHeartbeats 4000000 in
theorem we131 (rec : Int32 → Int32 → Int32 → sm_D → sm_M → Option sm_S) (dr : Nat) (hrec : ∀ (l1 l2 l3 : Int32) (D : sm_D) (M : sm_M) (R : sm_S), rec l1 l2 l3 D M = some R → sm_MJ smT smCl smSa shC f128 dr [.ref 18, .int l1, .int l2, .int l3] D M R) {l1 l2 l3 : Int32} {D : sm_D} {M : sm_M} {R : sm_S} (h : jV_ofChoice rec l1 l2 l3 D M = some R) : sm_WJ smT smCl smSa shC f131 (dr + 1) 0 [.ref 18, .int l1, .int l2, .int l3, .retAddr 0, .retAddr 0] [] D M R := by
  have e : jV_ofChoice rec l1 l2 l3 D M = (sm_run shC smSa (cal131 rec) c131 false (fun a D M => some (a, D, M)) (lf131_0 rec D) 47 (c131.drop 0) [.ref 18, .int l1, .int l2, .int l3, .retAddr 0, .retAddr 0] [] D M : Option (sm_S)) := rfl
  exact sm_blk (ρ := sm_S) (gd := (fun v => v = R)) (kx := 131) (i := 0) smVC rfl (by decide) (ck131 rec dr hrec) (fun a D M v e1 e2 => by cases e1; exact e2.symm) (ll131_0 rec dr hrec D) rfl (e.symm.trans h) rfl
theorem m131 (rec : Int32 → Int32 → Int32 → sm_D → sm_M → Option sm_S) (dr : Nat) (hrec : ∀ (l1 l2 l3 : Int32) (D : sm_D) (M : sm_M) (R : sm_S), rec l1 l2 l3 D M = some R → sm_MJ smT smCl smSa shC f128 dr [.ref 18, .int l1, .int l2, .int l3] D M R) {l1 l2 l3 : Int32} {D : sm_D} {M : sm_M} {R : sm_S} (h : jV_ofChoice rec l1 l2 l3 D M = some R) : sm_MJ smT smCl smSa shC f131 (dr + 1) [.ref 18, .int l1, .int l2, .int l3] D M R :=
  sm_met (by decide) (Nat.le_of_ble_eq_true rfl) (List.all_eq_true.mp rfl) (we131 rec dr hrec h)

-- jV_ofCall
noncomputable def cal132 (rec : Int32 → Int32 → Int32 → sm_D → sm_M → Option sm_S) : sm_Cal := fun x as D M =>
  if x = 128 then (match as with
    | [.ref 18, .int a1, .int a2, .int a3] => (rec a1 a2 a3 D M)
    | _ => none)
  else none
theorem ck132 (rec : Int32 → Int32 → Int32 → sm_D → sm_M → Option sm_S) (dr : Nat) (hrec : ∀ (l1 l2 l3 : Int32) (D : sm_D) (M : sm_M) (R : sm_S), rec l1 l2 l3 D M = some R → sm_MJ smT smCl smSa shC f128 dr [.ref 18, .int l1, .int l2, .int l3] D M R) : sm_CalOk smT smCl smP smSa shC (dr + 1) (cal132 rec) := by
  intro x g as D M R hx h
  unfold cal132 at h
  by_cases hx' : x = 128
  · subst hx'
    rw [if_pos (show (128 : Nat) = 128 from rfl)] at h
    cases (show smP[128]? = some f128 from rfl).symm.trans hx
    split at h
    · skip
      exact Or.inl ⟨dr, by omega, hrec _ _ _ _ _ _  h⟩
    · cases h
  · rw [if_neg hx'] at h
    cases h
set_option maxRecDepth 20000 in
set_option maxHeartbeats 4000000 in
theorem w132_66 (rec : Int32 → Int32 → Int32 → sm_D → sm_M → Option sm_S) (dr : Nat) (hrec : ∀ (l1 l2 l3 : Int32) (D : sm_D) (M : sm_M) (R : sm_S), rec l1 l2 l3 D M = some R → sm_MJ smT smCl smSa shC f128 dr [.ref 18, .int l1, .int l2, .int l3] D M R) {g0 g1 g2 g3 g4 g5 g6 : Value} {D : sm_D} {M : sm_M} {R : sm_S} (h : jV_ofCall_66 rec D M = some R) : sm_WJ smT smCl smSa shC f132 (dr + 1) 66 [g0, g1, g2, g3, g4, g5, g6] [] D M R := by
  have e : jV_ofCall_66 rec D M = (sm_run shC smSa (cal132 rec) c132 false (fun a D M => some (a, D, M)) sm_noleaf 78 (c132.drop 37) [g0, g1, g2, g3, g4, g5, g6] [] D M : Option (sm_S)) := rfl
  exact sm_blk (ρ := sm_S) (gd := (fun v => v = R)) (kx := 132) (i := 37) smVC rfl (by decide) (ck132 rec dr hrec) (fun a D M v e1 e2 => by cases e1; exact e2.symm) (sm_noleaf_ok) rfl (e.symm.trans h) rfl
noncomputable def lf132_0 (rec : Int32 → Int32 → Int32 → sm_D → sm_M → Option sm_S) (D : sm_D) : Nat → List Value → List Value → sm_D → sm_M → Option (sm_S) := fun pc ls st D' M =>
  if pc = 66 then (match ls, st with
    | [gl0, gl1, gl2, gl3, gl4, gl5, gl6], [] => (jV_ofCall_66 rec D' M)
    | _, _ => none)
  else none
theorem ll132_0 (rec : Int32 → Int32 → Int32 → sm_D → sm_M → Option sm_S) (dr : Nat) (hrec : ∀ (l1 l2 l3 : Int32) (D : sm_D) (M : sm_M) (R : sm_S), rec l1 l2 l3 D M = some R → sm_MJ smT smCl smSa shC f128 dr [.ref 18, .int l1, .int l2, .int l3] D M R) (D : sm_D) {R : sm_S} : ∀ (pc : Nat) (ls st : List Value) (D' : sm_D) (M : sm_M) (v : sm_S), (lf132_0 rec D) pc ls st D' M = some v → (fun v => v = R) v → sm_WJ smT smCl smSa shC f132 (dr + 1) pc ls st D' M R := by
  intro pc ls st D' M v h hv
  unfold lf132_0 at h
  by_cases hp0 : pc = 66
  · subst hp0
    rw [if_pos (show (66 : Nat) = 66 from rfl)] at h
    split at h
    · skip
      have hv : v = R := hv
      subst hv
      exact w132_66 rec dr hrec h
    · cases h
  · rw [if_neg hp0] at h
    cases h
set_option maxRecDepth 20000 in
set_option maxHeartbeats 4000000 in
theorem we132 (rec : Int32 → Int32 → Int32 → sm_D → sm_M → Option sm_S) (dr : Nat) (hrec : ∀ (l1 l2 l3 : Int32) (D : sm_D) (M : sm_M) (R : sm_S), rec l1 l2 l3 D M = some R → sm_MJ smT smCl smSa shC f128 dr [.ref 18, .int l1, .int l2, .int l3] D M R) {l1 l2 l3 : Int32} {D : sm_D} {M : sm_M} {R : sm_S} (h : jV_ofCall rec l1 l2 l3 D M = some R) : sm_WJ smT smCl smSa shC f132 (dr + 1) 0 [.ref 18, .int l1, .int l2, .int l3, .retAddr 0, .retAddr 0, .retAddr 0] [] D M R := by
  have e : jV_ofCall rec l1 l2 l3 D M = (sm_run shC smSa (cal132 rec) c132 false (fun a D M => some (a, D, M)) (lf132_0 rec D) 78 (c132.drop 0) [.ref 18, .int l1, .int l2, .int l3, .retAddr 0, .retAddr 0, .retAddr 0] [] D M : Option (sm_S)) := rfl
  exact sm_blk (ρ := sm_S) (gd := (fun v => v = R)) (kx := 132) (i := 0) smVC rfl (by decide) (ck132 rec dr hrec) (fun a D M v e1 e2 => by cases e1; exact e2.symm) (ll132_0 rec dr hrec D) rfl (e.symm.trans h) rfl
theorem m132 (rec : Int32 → Int32 → Int32 → sm_D → sm_M → Option sm_S) (dr : Nat) (hrec : ∀ (l1 l2 l3 : Int32) (D : sm_D) (M : sm_M) (R : sm_S), rec l1 l2 l3 D M = some R → sm_MJ smT smCl smSa shC f128 dr [.ref 18, .int l1, .int l2, .int l3] D M R) {l1 l2 l3 : Int32} {D : sm_D} {M : sm_M} {R : sm_S} (h : jV_ofCall rec l1 l2 l3 D M = some R) : sm_MJ smT smCl smSa shC f132 (dr + 1) [.ref 18, .int l1, .int l2, .int l3] D M R :=
  sm_met (by decide) (Nat.le_of_ble_eq_true rfl) (List.all_eq_true.mp rfl) (we132 rec dr hrec h)

-- jV_ofPart
noncomputable def cal133 (rec : Int32 → Int32 → Int32 → sm_D → sm_M → Option sm_S) : sm_Cal := fun x as D M =>
  if x = 128 then (match as with
    | [.ref 18, .int a1, .int a2, .int a3] => (rec a1 a2 a3 D M)
    | _ => none)
  else none
theorem ck133 (rec : Int32 → Int32 → Int32 → sm_D → sm_M → Option sm_S) (dr : Nat) (hrec : ∀ (l1 l2 l3 : Int32) (D : sm_D) (M : sm_M) (R : sm_S), rec l1 l2 l3 D M = some R → sm_MJ smT smCl smSa shC f128 dr [.ref 18, .int l1, .int l2, .int l3] D M R) : sm_CalOk smT smCl smP smSa shC (dr + 1) (cal133 rec) := by
  intro x g as D M R hx h
  unfold cal133 at h
  by_cases hx' : x = 128
  · subst hx'
    rw [if_pos (show (128 : Nat) = 128 from rfl)] at h
    cases (show smP[128]? = some f128 from rfl).symm.trans hx
    split at h
    · skip
      exact Or.inl ⟨dr, by omega, hrec _ _ _ _ _ _  h⟩
    · cases h
  · rw [if_neg hx'] at h
    cases h
set_option maxRecDepth 20000 in
set_option maxHeartbeats 4000000 in
theorem w133_37 (rec : Int32 → Int32 → Int32 → sm_D → sm_M → Option sm_S) (dr : Nat) (hrec : ∀ (l1 l2 l3 : Int32) (D : sm_D) (M : sm_M) (R : sm_S), rec l1 l2 l3 D M = some R → sm_MJ smT smCl smSa shC f128 dr [.ref 18, .int l1, .int l2, .int l3] D M R) {g0 g1 g2 g3 g4 : Value} {D : sm_D} {M : sm_M} {R : sm_S} (h : jV_ofPart_37 rec D M = some R) : sm_WJ smT smCl smSa shC f133 (dr + 1) 37 [g0, g1, g2, g3, g4] [] D M R := by
  have e : jV_ofPart_37 rec D M = (sm_run shC smSa (cal133 rec) c133 false (fun a D M => some (a, D, M)) sm_noleaf 45 (c133.drop 21) [g0, g1, g2, g3, g4] [] D M : Option (sm_S)) := rfl
  exact sm_blk (ρ := sm_S) (gd := (fun v => v = R)) (kx := 133) (i := 21) smVC rfl (by decide) (ck133 rec dr hrec) (fun a D M v e1 e2 => by cases e1; exact e2.symm) (sm_noleaf_ok) rfl (e.symm.trans h) rfl
set_option maxRecDepth 20000 in
set_option maxHeartbeats 4000000 in
theorem w133_70 (rec : Int32 → Int32 → Int32 → sm_D → sm_M → Option sm_S) (dr : Nat) (hrec : ∀ (l1 l2 l3 : Int32) (D : sm_D) (M : sm_M) (R : sm_S), rec l1 l2 l3 D M = some R → sm_MJ smT smCl smSa shC f128 dr [.ref 18, .int l1, .int l2, .int l3] D M R) {s0 : Int32} {g0 g1 g2 g3 g4 : Value} {D : sm_D} {M : sm_M} {R : sm_S} (h : jV_ofPart_70 rec s0 D M = some R) : sm_WJ smT smCl smSa shC f133 (dr + 1) 70 [g0, g1, g2, g3, g4] [.int s0] D M R := by
  have e : jV_ofPart_70 rec s0 D M = (sm_run shC smSa (cal133 rec) c133 false (fun a D M => some (a, D, M)) sm_noleaf 45 (c133.drop 39) [g0, g1, g2, g3, g4] [.int s0] D M : Option (sm_S)) := rfl
  exact sm_blk (ρ := sm_S) (gd := (fun v => v = R)) (kx := 133) (i := 39) smVC rfl (by decide) (ck133 rec dr hrec) (fun a D M v e1 e2 => by cases e1; exact e2.symm) (sm_noleaf_ok) rfl (e.symm.trans h) rfl
noncomputable def lf133_0 (rec : Int32 → Int32 → Int32 → sm_D → sm_M → Option sm_S) (D : sm_D) : Nat → List Value → List Value → sm_D → sm_M → Option (sm_S) := fun pc ls st D' M =>
  if pc = 37 then (match ls, st with
    | [gl0, gl1, gl2, gl3, gl4], [] => (jV_ofPart_37 rec D' M)
    | _, _ => none)
  else if pc = 70 then (match ls, st with
    | [gl0, gl1, gl2, gl3, gl4], [.int bs0] => (jV_ofPart_70 rec bs0 D' M)
    | _, _ => none)
  else none
theorem ll133_0 (rec : Int32 → Int32 → Int32 → sm_D → sm_M → Option sm_S) (dr : Nat) (hrec : ∀ (l1 l2 l3 : Int32) (D : sm_D) (M : sm_M) (R : sm_S), rec l1 l2 l3 D M = some R → sm_MJ smT smCl smSa shC f128 dr [.ref 18, .int l1, .int l2, .int l3] D M R) (D : sm_D) {R : sm_S} : ∀ (pc : Nat) (ls st : List Value) (D' : sm_D) (M : sm_M) (v : sm_S), (lf133_0 rec D) pc ls st D' M = some v → (fun v => v = R) v → sm_WJ smT smCl smSa shC f133 (dr + 1) pc ls st D' M R := by
  intro pc ls st D' M v h hv
  unfold lf133_0 at h
  by_cases hp0 : pc = 37
  · subst hp0
    rw [if_pos (show (37 : Nat) = 37 from rfl)] at h
    split at h
    · skip
      have hv : v = R := hv
      subst hv
      exact w133_37 rec dr hrec h
    · cases h
  · rw [if_neg hp0] at h
    by_cases hp0 : pc = 70
    · subst hp0
      rw [if_pos (show (70 : Nat) = 70 from rfl)] at h
      split at h
      · skip
        have hv : v = R := hv
        subst hv
        exact w133_70 rec dr hrec h
      · cases h
    · rw [if_neg hp0] at h
      cases h
set_option maxRecDepth 20000 in
set_option maxHeartbeats 4000000 in
theorem we133 (rec : Int32 → Int32 → Int32 → sm_D → sm_M → Option sm_S) (dr : Nat) (hrec : ∀ (l1 l2 l3 : Int32) (D : sm_D) (M : sm_M) (R : sm_S), rec l1 l2 l3 D M = some R → sm_MJ smT smCl smSa shC f128 dr [.ref 18, .int l1, .int l2, .int l3] D M R) {l1 l2 l3 : Int32} {D : sm_D} {M : sm_M} {R : sm_S} (h : jV_ofPart rec l1 l2 l3 D M = some R) : sm_WJ smT smCl smSa shC f133 (dr + 1) 0 [.ref 18, .int l1, .int l2, .int l3, .retAddr 0] [] D M R := by
  have e : jV_ofPart rec l1 l2 l3 D M = (sm_run shC smSa (cal133 rec) c133 false (fun a D M => some (a, D, M)) (lf133_0 rec D) 45 (c133.drop 0) [.ref 18, .int l1, .int l2, .int l3, .retAddr 0] [] D M : Option (sm_S)) := rfl
  exact sm_blk (ρ := sm_S) (gd := (fun v => v = R)) (kx := 133) (i := 0) smVC rfl (by decide) (ck133 rec dr hrec) (fun a D M v e1 e2 => by cases e1; exact e2.symm) (ll133_0 rec dr hrec D) rfl (e.symm.trans h) rfl
theorem m133 (rec : Int32 → Int32 → Int32 → sm_D → sm_M → Option sm_S) (dr : Nat) (hrec : ∀ (l1 l2 l3 : Int32) (D : sm_D) (M : sm_M) (R : sm_S), rec l1 l2 l3 D M = some R → sm_MJ smT smCl smSa shC f128 dr [.ref 18, .int l1, .int l2, .int l3] D M R) {l1 l2 l3 : Int32} {D : sm_D} {M : sm_M} {R : sm_S} (h : jV_ofPart rec l1 l2 l3 D M = some R) : sm_MJ smT smCl smSa shC f133 (dr + 1) [.ref 18, .int l1, .int l2, .int l3] D M R :=
  sm_met (by decide) (Nat.le_of_ble_eq_true rfl) (List.all_eq_true.mp rfl) (we133 rec dr hrec h)

-- jV_ofTwo
noncomputable def cal134 (rec : Int32 → Int32 → Int32 → sm_D → sm_M → Option sm_S) : sm_Cal := fun x as D M =>
  if x = 128 then (match as with
    | [.ref 18, .int a1, .int a2, .int a3] => (rec a1 a2 a3 D M)
    | _ => none)
  else if x = 129 then (match as with
    | [.ref 18, .int a1, .int a2, .int a3] => (jV_value a1 a2 a3 D M)
    | _ => none)
  else none
theorem ck134 (rec : Int32 → Int32 → Int32 → sm_D → sm_M → Option sm_S) (dr : Nat) (hrec : ∀ (l1 l2 l3 : Int32) (D : sm_D) (M : sm_M) (R : sm_S), rec l1 l2 l3 D M = some R → sm_MJ smT smCl smSa shC f128 dr [.ref 18, .int l1, .int l2, .int l3] D M R) : sm_CalOk smT smCl smP smSa shC (dr + 1) (cal134 rec) := by
  intro x g as D M R hx h
  unfold cal134 at h
  by_cases hx' : x = 128
  · subst hx'
    rw [if_pos (show (128 : Nat) = 128 from rfl)] at h
    cases (show smP[128]? = some f128 from rfl).symm.trans hx
    split at h
    · skip
      exact Or.inl ⟨dr, by omega, hrec _ _ _ _ _ _  h⟩
    · cases h
  · rw [if_neg hx'] at h
    by_cases hx' : x = 129
    · subst hx'
      rw [if_pos (show (129 : Nat) = 129 from rfl)] at h
      cases (show smP[129]? = some f129 from rfl).symm.trans hx
      split at h
      · skip
        exact Or.inl ⟨0, by omega, m129   h⟩
      · cases h
    · rw [if_neg hx'] at h
      cases h
set_option maxRecDepth 20000 in
set_option maxHeartbeats 4000000 in
theorem we134 (rec : Int32 → Int32 → Int32 → sm_D → sm_M → Option sm_S) (dr : Nat) (hrec : ∀ (l1 l2 l3 : Int32) (D : sm_D) (M : sm_M) (R : sm_S), rec l1 l2 l3 D M = some R → sm_MJ smT smCl smSa shC f128 dr [.ref 18, .int l1, .int l2, .int l3] D M R) {l1 l2 l3 : Int32} {D : sm_D} {M : sm_M} {R : sm_S} (h : jV_ofTwo rec l1 l2 l3 D M = some R) : sm_WJ smT smCl smSa shC f134 (dr + 1) 0 [.ref 18, .int l1, .int l2, .int l3, .retAddr 0, .retAddr 0] [] D M R := by
  have e : jV_ofTwo rec l1 l2 l3 D M = (sm_run shC smSa (cal134 rec) c134 false (fun a D M => some (a, D, M)) sm_noleaf 88 (c134.drop 0) [.ref 18, .int l1, .int l2, .int l3, .retAddr 0, .retAddr 0] [] D M : Option (sm_S)) := rfl
  exact sm_blk (ρ := sm_S) (gd := (fun v => v = R)) (kx := 134) (i := 0) smVC rfl (by decide) (ck134 rec dr hrec) (fun a D M v e1 e2 => by cases e1; exact e2.symm) (sm_noleaf_ok) rfl (e.symm.trans h) rfl
theorem m134 (rec : Int32 → Int32 → Int32 → sm_D → sm_M → Option sm_S) (dr : Nat) (hrec : ∀ (l1 l2 l3 : Int32) (D : sm_D) (M : sm_M) (R : sm_S), rec l1 l2 l3 D M = some R → sm_MJ smT smCl smSa shC f128 dr [.ref 18, .int l1, .int l2, .int l3] D M R) {l1 l2 l3 : Int32} {D : sm_D} {M : sm_M} {R : sm_S} (h : jV_ofTwo rec l1 l2 l3 D M = some R) : sm_MJ smT smCl smSa shC f134 (dr + 1) [.ref 18, .int l1, .int l2, .int l3] D M R :=
  sm_met (by decide) (Nat.le_of_ble_eq_true rfl) (List.all_eq_true.mp rfl) (we134 rec dr hrec h)

-- jV_find
noncomputable def cal128 (rec : Int32 → Int32 → Int32 → sm_D → sm_M → Option sm_S) : sm_Cal := fun x as D M =>
  if x = 129 then (match as with
    | [.ref 18, .int a1, .int a2, .int a3] => (jV_value a1 a2 a3 D M)
    | _ => none)
  else if x = 130 then (match as with
    | [.ref 18, .int a1, .int a2] => (jV_ofVariable a1 a2 D M)
    | _ => none)
  else if x = 131 then (match as with
    | [.ref 18, .int a1, .int a2, .int a3] => (jV_ofChoice rec a1 a2 a3 D M)
    | _ => none)
  else if x = 132 then (match as with
    | [.ref 18, .int a1, .int a2, .int a3] => (jV_ofCall rec a1 a2 a3 D M)
    | _ => none)
  else if x = 133 then (match as with
    | [.ref 18, .int a1, .int a2, .int a3] => (jV_ofPart rec a1 a2 a3 D M)
    | _ => none)
  else if x = 134 then (match as with
    | [.ref 18, .int a1, .int a2, .int a3] => (jV_ofTwo rec a1 a2 a3 D M)
    | _ => none)
  else none
theorem ck128 (rec : Int32 → Int32 → Int32 → sm_D → sm_M → Option sm_S) (dr : Nat) (hrec : ∀ (l1 l2 l3 : Int32) (D : sm_D) (M : sm_M) (R : sm_S), rec l1 l2 l3 D M = some R → sm_MJ smT smCl smSa shC f128 dr [.ref 18, .int l1, .int l2, .int l3] D M R) : sm_CalOk smT smCl smP smSa shC (dr + 2) (cal128 rec) := by
  intro x g as D M R hx h
  unfold cal128 at h
  by_cases hx' : x = 129
  · subst hx'
    rw [if_pos (show (129 : Nat) = 129 from rfl)] at h
    cases (show smP[129]? = some f129 from rfl).symm.trans hx
    split at h
    · skip
      exact Or.inl ⟨0, by omega, m129   h⟩
    · cases h
  · rw [if_neg hx'] at h
    by_cases hx' : x = 130
    · subst hx'
      rw [if_pos (show (130 : Nat) = 130 from rfl)] at h
      cases (show smP[130]? = some f130 from rfl).symm.trans hx
      split at h
      · skip
        exact Or.inl ⟨0, by omega, m130   h⟩
      · cases h
    · rw [if_neg hx'] at h
      by_cases hx' : x = 131
      · subst hx'
        rw [if_pos (show (131 : Nat) = 131 from rfl)] at h
        cases (show smP[131]? = some f131 from rfl).symm.trans hx
        split at h
        · skip
          exact Or.inl ⟨dr + 1, by omega, m131 rec dr hrec  h⟩
        · cases h
      · rw [if_neg hx'] at h
        by_cases hx' : x = 132
        · subst hx'
          rw [if_pos (show (132 : Nat) = 132 from rfl)] at h
          cases (show smP[132]? = some f132 from rfl).symm.trans hx
          split at h
          · skip
            exact Or.inl ⟨dr + 1, by omega, m132 rec dr hrec  h⟩
          · cases h
        · rw [if_neg hx'] at h
          by_cases hx' : x = 133
          · subst hx'
            rw [if_pos (show (133 : Nat) = 133 from rfl)] at h
            cases (show smP[133]? = some f133 from rfl).symm.trans hx
            split at h
            · skip
              exact Or.inl ⟨dr + 1, by omega, m133 rec dr hrec  h⟩
            · cases h
          · rw [if_neg hx'] at h
            by_cases hx' : x = 134
            · subst hx'
              rw [if_pos (show (134 : Nat) = 134 from rfl)] at h
              cases (show smP[134]? = some f134 from rfl).symm.trans hx
              split at h
              · skip
                exact Or.inl ⟨dr + 1, by omega, m134 rec dr hrec  h⟩
              · cases h
            · rw [if_neg hx'] at h
              cases h
set_option maxRecDepth 20000 in
set_option maxHeartbeats 4000000 in
theorem w128_23 (rec : Int32 → Int32 → Int32 → sm_D → sm_M → Option sm_S) (dr : Nat) (hrec : ∀ (l1 l2 l3 : Int32) (D : sm_D) (M : sm_M) (R : sm_S), rec l1 l2 l3 D M = some R → sm_MJ smT smCl smSa shC f128 dr [.ref 18, .int l1, .int l2, .int l3] D M R) {g1 g2 g3 : Value} {D : sm_D} {M : sm_M} {R : sm_S} (h : jV_find_23 rec D M = some R) : sm_WJ smT smCl smSa shC f128 (dr + 2) 23 [.ref 18, g1, g2, g3] [] D M R := by
  have e : jV_find_23 rec D M = (sm_run shC smSa (cal128 rec) c128 false (fun a D M => some (a, D, M)) sm_noleaf 81 (c128.drop 10) [.ref 18, g1, g2, g3] [] D M : Option (sm_S)) := rfl
  exact sm_blk (ρ := sm_S) (gd := (fun v => v = R)) (kx := 128) (i := 10) smVC rfl (by decide) (ck128 rec dr hrec) (fun a D M v e1 e2 => by cases e1; exact e2.symm) (sm_noleaf_ok) rfl (e.symm.trans h) rfl
set_option maxRecDepth 20000 in
set_option maxHeartbeats 4000000 in
theorem w128_163 (rec : Int32 → Int32 → Int32 → sm_D → sm_M → Option sm_S) (dr : Nat) (hrec : ∀ (l1 l2 l3 : Int32) (D : sm_D) (M : sm_M) (R : sm_S), rec l1 l2 l3 D M = some R → sm_MJ smT smCl smSa shC f128 dr [.ref 18, .int l1, .int l2, .int l3] D M R) {l1 l2 l3 : Int32} {D : sm_D} {M : sm_M} {R : sm_S} (h : jV_find_163 rec l1 l2 l3 D M = some R) : sm_WJ smT smCl smSa shC f128 (dr + 2) 163 [.ref 18, .int l1, .int l2, .int l3] [] D M R := by
  have e : jV_find_163 rec l1 l2 l3 D M = (sm_run shC smSa (cal128 rec) c128 false (fun a D M => some (a, D, M)) sm_noleaf 81 (c128.drop 64) [.ref 18, .int l1, .int l2, .int l3] [] D M : Option (sm_S)) := rfl
  exact sm_blk (ρ := sm_S) (gd := (fun v => v = R)) (kx := 128) (i := 64) smVC rfl (by decide) (ck128 rec dr hrec) (fun a D M v e1 e2 => by cases e1; exact e2.symm) (sm_noleaf_ok) rfl (e.symm.trans h) rfl
set_option maxRecDepth 20000 in
set_option maxHeartbeats 4000000 in
theorem w128_171 (rec : Int32 → Int32 → Int32 → sm_D → sm_M → Option sm_S) (dr : Nat) (hrec : ∀ (l1 l2 l3 : Int32) (D : sm_D) (M : sm_M) (R : sm_S), rec l1 l2 l3 D M = some R → sm_MJ smT smCl smSa shC f128 dr [.ref 18, .int l1, .int l2, .int l3] D M R) {l1 l2 l3 : Int32} {D : sm_D} {M : sm_M} {R : sm_S} (h : jV_find_171 rec l1 l2 l3 D M = some R) : sm_WJ smT smCl smSa shC f128 (dr + 2) 171 [.ref 18, .int l1, .int l2, .int l3] [] D M R := by
  have e : jV_find_171 rec l1 l2 l3 D M = (sm_run shC smSa (cal128 rec) c128 false (fun a D M => some (a, D, M)) sm_noleaf 81 (c128.drop 70) [.ref 18, .int l1, .int l2, .int l3] [] D M : Option (sm_S)) := rfl
  exact sm_blk (ρ := sm_S) (gd := (fun v => v = R)) (kx := 128) (i := 70) smVC rfl (by decide) (ck128 rec dr hrec) (fun a D M v e1 e2 => by cases e1; exact e2.symm) (sm_noleaf_ok) rfl (e.symm.trans h) rfl
noncomputable def lf128_0 (rec : Int32 → Int32 → Int32 → sm_D → sm_M → Option sm_S) (D : sm_D) : Nat → List Value → List Value → sm_D → sm_M → Option (sm_S) := fun pc ls st D' M =>
  if pc = 23 then (match ls, st with
    | [.ref 18, gl1, gl2, gl3], [] => (jV_find_23 rec D' M)
    | _, _ => none)
  else if pc = 163 then (match ls, st with
    | [.ref 18, .int bl1, .int bl2, .int bl3], [] => (jV_find_163 rec bl1 bl2 bl3 D' M)
    | _, _ => none)
  else if pc = 171 then (match ls, st with
    | [.ref 18, .int bl1, .int bl2, .int bl3], [] => (jV_find_171 rec bl1 bl2 bl3 D' M)
    | _, _ => none)
  else none
theorem ll128_0 (rec : Int32 → Int32 → Int32 → sm_D → sm_M → Option sm_S) (dr : Nat) (hrec : ∀ (l1 l2 l3 : Int32) (D : sm_D) (M : sm_M) (R : sm_S), rec l1 l2 l3 D M = some R → sm_MJ smT smCl smSa shC f128 dr [.ref 18, .int l1, .int l2, .int l3] D M R) (D : sm_D) {R : sm_S} : ∀ (pc : Nat) (ls st : List Value) (D' : sm_D) (M : sm_M) (v : sm_S), (lf128_0 rec D) pc ls st D' M = some v → (fun v => v = R) v → sm_WJ smT smCl smSa shC f128 (dr + 2) pc ls st D' M R := by
  intro pc ls st D' M v h hv
  unfold lf128_0 at h
  by_cases hp0 : pc = 23
  · subst hp0
    rw [if_pos (show (23 : Nat) = 23 from rfl)] at h
    split at h
    · skip
      have hv : v = R := hv
      subst hv
      exact w128_23 rec dr hrec h
    · cases h
  · rw [if_neg hp0] at h
    by_cases hp0 : pc = 163
    · subst hp0
      rw [if_pos (show (163 : Nat) = 163 from rfl)] at h
      split at h
      · skip
        have hv : v = R := hv
        subst hv
        exact w128_163 rec dr hrec h
      · cases h
    · rw [if_neg hp0] at h
      by_cases hp0 : pc = 171
      · subst hp0
        rw [if_pos (show (171 : Nat) = 171 from rfl)] at h
        split at h
        · skip
          have hv : v = R := hv
          subst hv
          exact w128_171 rec dr hrec h
        · cases h
      · rw [if_neg hp0] at h
        cases h
set_option maxRecDepth 20000 in
set_option maxHeartbeats 4000000 in
theorem we128 (rec : Int32 → Int32 → Int32 → sm_D → sm_M → Option sm_S) (dr : Nat) (hrec : ∀ (l1 l2 l3 : Int32) (D : sm_D) (M : sm_M) (R : sm_S), rec l1 l2 l3 D M = some R → sm_MJ smT smCl smSa shC f128 dr [.ref 18, .int l1, .int l2, .int l3] D M R) {l1 l2 l3 : Int32} {D : sm_D} {M : sm_M} {R : sm_S} (h : jV_find0 rec l1 l2 l3 D M = some R) : sm_WJ smT smCl smSa shC f128 (dr + 2) 0 [.ref 18, .int l1, .int l2, .int l3] [] D M R := by
  have e : jV_find0 rec l1 l2 l3 D M = (sm_run shC smSa (cal128 rec) c128 false (fun a D M => some (a, D, M)) (lf128_0 rec D) 81 (c128.drop 0) [.ref 18, .int l1, .int l2, .int l3] [] D M : Option (sm_S)) := rfl
  exact sm_blk (ρ := sm_S) (gd := (fun v => v = R)) (kx := 128) (i := 0) smVC rfl (by decide) (ck128 rec dr hrec) (fun a D M v e1 e2 => by cases e1; exact e2.symm) (ll128_0 rec dr hrec D) rfl (e.symm.trans h) rfl
theorem mh128 (rec : Int32 → Int32 → Int32 → sm_D → sm_M → Option sm_S) (dr : Nat) (hrec : ∀ (l1 l2 l3 : Int32) (D : sm_D) (M : sm_M) (R : sm_S), rec l1 l2 l3 D M = some R → sm_MJ smT smCl smSa shC f128 dr [.ref 18, .int l1, .int l2, .int l3] D M R) {l1 l2 l3 : Int32} {D : sm_D} {M : sm_M} {R : sm_S} (h : jV_find0 rec l1 l2 l3 D M = some R) : sm_MJ smT smCl smSa shC f128 (dr + 2) [.ref 18, .int l1, .int l2, .int l3] D M R :=
  sm_met (by decide) (Nat.le_of_ble_eq_true rfl) (List.all_eq_true.mp rfl) (we128 rec dr hrec h)
theorem m128 (n : Nat) {l1 l2 l3 : Int32} {D : sm_D} {M : sm_M} {R : sm_S} (h : jV_find n l1 l2 l3 D M = some R) : sm_MJ smT smCl smSa shC f128 (n * 2) [.ref 18, .int l1, .int l2, .int l3] D M R := by
  induction n generalizing l1 l2 l3 D M R with
  | zero => cases h
  | succ n ih =>
    rw [Nat.succ_mul]
    exact mh128 (jV_find n) (n * 2) (fun l1 l2 l3 D M R h => ih h)  h

-- jV_answerOf
noncomputable def cal127  : sm_Cal := fun x as D M =>
  if x = 128 then (match as with
    | [.ref 18, .int a1, .int a2, .int a3] => (jV_find 61 a1 a2 a3 D M)
    | _ => none)
  else none
theorem ck127  : sm_CalOk smT smCl smP smSa shC 123 cal127 := by
  intro x g as D M R hx h
  unfold cal127 at h
  by_cases hx' : x = 128
  · subst hx'
    rw [if_pos (show (128 : Nat) = 128 from rfl)] at h
    cases (show smP[128]? = some f128 from rfl).symm.trans hx
    split at h
    · skip
      exact Or.inl ⟨61 * 2, by omega, m128 61  h⟩
    · cases h
  · rw [if_neg hx'] at h
    cases h
set_option maxRecDepth 20000 in
set_option maxHeartbeats 4000000 in
theorem w127_45 {s0 : Int32} {g0 g1 g2 : Value} {D : sm_D} {M : sm_M} {R : sm_S} (h : jV_answerOf_45 s0 D M = some R) : sm_WJ smT smCl smSa shC f127 123 45 [g0, g1, g2] [.int s0] D M R := by
  have e : jV_answerOf_45 s0 D M = (sm_run shC smSa cal127 c127 false (fun a D M => some (a, D, M)) sm_noleaf 33 (c127.drop 27) [g0, g1, g2] [.int s0] D M : Option (sm_S)) := rfl
  exact sm_blk (ρ := sm_S) (gd := (fun v => v = R)) (kx := 127) (i := 27) smVC rfl (by decide) ck127 (fun a D M v e1 e2 => by cases e1; exact e2.symm) (sm_noleaf_ok) rfl (e.symm.trans h) rfl
noncomputable def lf127_0 (D : sm_D) : Nat → List Value → List Value → sm_D → sm_M → Option (sm_S) := fun pc ls st D' M =>
  if pc = 45 then (match ls, st with
    | [gl0, gl1, gl2], [.int bs0] => (jV_answerOf_45 bs0 D' M)
    | _, _ => none)
  else none
theorem ll127_0 (D : sm_D) {R : sm_S} : ∀ (pc : Nat) (ls st : List Value) (D' : sm_D) (M : sm_M) (v : sm_S), (lf127_0 D) pc ls st D' M = some v → (fun v => v = R) v → sm_WJ smT smCl smSa shC f127 123 pc ls st D' M R := by
  intro pc ls st D' M v h hv
  unfold lf127_0 at h
  by_cases hp0 : pc = 45
  · subst hp0
    rw [if_pos (show (45 : Nat) = 45 from rfl)] at h
    split at h
    · skip
      have hv : v = R := hv
      subst hv
      exact w127_45  h
    · cases h
  · rw [if_neg hp0] at h
    cases h
set_option maxRecDepth 20000 in
set_option maxHeartbeats 4000000 in
theorem we127 {l1 : Int32} {D : sm_D} {M : sm_M} {R : sm_S} (h : jV_answerOf l1 D M = some R) : sm_WJ smT smCl smSa shC f127 123 0 [.ref 18, .int l1, .retAddr 0] [] D M R := by
  have e : jV_answerOf l1 D M = (sm_run shC smSa cal127 c127 false (fun a D M => some (a, D, M)) (lf127_0 D) 33 (c127.drop 0) [.ref 18, .int l1, .retAddr 0] [] D M : Option (sm_S)) := rfl
  exact sm_blk (ρ := sm_S) (gd := (fun v => v = R)) (kx := 127) (i := 0) smVC rfl (by decide) ck127 (fun a D M v e1 e2 => by cases e1; exact e2.symm) (ll127_0 D) rfl (e.symm.trans h) rfl
theorem m127 {l1 : Int32} {D : sm_D} {M : sm_M} {R : sm_S} (h : jV_answerOf l1 D M = some R) : sm_MJ smT smCl smSa shC f127 123 [.ref 18, .int l1] D M R :=
  sm_met (by decide) (Nat.le_of_ble_eq_true rfl) (List.all_eq_true.mp rfl) (we127  h)
