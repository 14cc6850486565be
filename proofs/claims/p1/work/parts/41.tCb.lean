-- jA_typeOf
noncomputable def cal14  : sm_Cal := fun x as D M =>
  if x = 164 then (match as with
    | [.ref 16, .int a1] => (jY_typeWhereNothingIsBound a1 D M)
    | _ => none)
  else if x = 160 then (match as with
    | [.ref 1, .int a1] => (jT_forgetFrom a1 D M)
    | _ => none)
  else none
theorem ck14  : sm_CalOk smT smCl smP smSa shC 26 cal14 := by
  intro x g as D M R hx h
  unfold cal14 at h
  by_cases hx' : x = 164
  · subst hx'
    rw [if_pos (show (164 : Nat) = 164 from rfl)] at h
    cases (show smP[164]? = some f164 from rfl).symm.trans hx
    split at h
    · skip
      exact Or.inl ⟨25, by omega, m164   h⟩
    · cases h
  · rw [if_neg hx'] at h
    by_cases hx' : x = 160
    · subst hx'
      rw [if_pos (show (160 : Nat) = 160 from rfl)] at h
      cases (show smP[160]? = some f160 from rfl).symm.trans hx
      split at h
      · skip
        exact Or.inl ⟨1, by omega, m160   h⟩
      · cases h
    · rw [if_neg hx'] at h
      cases h
set_option maxRecDepth 20000 in
set_option maxHeartbeats 4000000 in
theorem we14 {l1 : Int32} {D : sm_D} {M : sm_M} {R : sm_S} (h : jA_typeOf l1 D M = some R) : sm_WJ smT smCl smSa shC f14 26 0 [.ref 60, .int l1, .retAddr 0, .retAddr 0] [] D M R := by
  have e : jA_typeOf l1 D M = (sm_run shC smSa cal14 c14 false (fun a D M => some (a, D, M)) sm_noleaf 20 (c14.drop 0) [.ref 60, .int l1, .retAddr 0, .retAddr 0] [] D M : Option (sm_S)) := rfl
  exact sm_blk (ρ := sm_S) (gd := (fun v => v = R)) (kx := 14) (i := 0) smVC rfl (by decide) ck14 (fun a D M v e1 e2 => by cases e1; exact e2.symm) (sm_noleaf_ok) rfl (e.symm.trans h) rfl
theorem m14 {l1 : Int32} {D : sm_D} {M : sm_M} {R : sm_S} (h : jA_typeOf l1 D M = some R) : sm_MJ smT smCl smSa shC f14 26 [.ref 60, .int l1] D M R :=
  sm_met (by decide) (Nat.le_of_ble_eq_true rfl) (List.all_eq_true.mp rfl) (we14  h)

-- jA_is
noncomputable def cal3  : sm_Cal := fun x as D M =>
  if x = 135 then (match as with
    | [.ref 9, .int a1] => (jE_has a1 D M)
    | _ => none)
  else if x = 150 then (match as with
    | [.ref 1, .int a1] => (jT_has a1 D M)
    | _ => none)
  else if x = 14 then (match as with
    | [.ref 60, .int a1] => (jA_typeOf a1 D M)
    | _ => none)
  else none
theorem ck3  : sm_CalOk smT smCl smP smSa shC 27 cal3 := by
  intro x g as D M R hx h
  unfold cal3 at h
  by_cases hx' : x = 135
  · subst hx'
    rw [if_pos (show (135 : Nat) = 135 from rfl)] at h
    cases (show smP[135]? = some f135 from rfl).symm.trans hx
    split at h
    · skip
      exact Or.inl ⟨0, by omega, m135   h⟩
    · cases h
  · rw [if_neg hx'] at h
    by_cases hx' : x = 150
    · subst hx'
      rw [if_pos (show (150 : Nat) = 150 from rfl)] at h
      cases (show smP[150]? = some f150 from rfl).symm.trans hx
      split at h
      · skip
        exact Or.inl ⟨0, by omega, m150   h⟩
      · cases h
    · rw [if_neg hx'] at h
      by_cases hx' : x = 14
      · subst hx'
        rw [if_pos (show (14 : Nat) = 14 from rfl)] at h
        cases (show smP[14]? = some f14 from rfl).symm.trans hx
        split at h
        · skip
          exact Or.inl ⟨26, by omega, m14   h⟩
        · cases h
      · rw [if_neg hx'] at h
        cases h
set_option maxRecDepth 20000 in
set_option maxHeartbeats 4000000 in
theorem w3_36 {s0 : Int32} {g0 g1 g2 : Value} {D : sm_D} {M : sm_M} {R : sm_S} (h : jA_is_36 s0 D M = some R) : sm_WJ smT smCl smSa shC f3 27 36 [g0, g1, g2] [.int s0] D M R := by
  have e : jA_is_36 s0 D M = (sm_run shC smSa cal3 c3 true (fun a D M => some (a, D, M)) sm_noleaf 24 (c3.drop 18) [g0, g1, g2] [.int s0] D M : Option (sm_S)) := rfl
  exact sm_blk (ρ := sm_S) (gd := (fun v => v = R)) (kx := 3) (i := 18) smVC rfl (by decide) ck3 (fun a D M v e1 e2 => by cases e1; exact e2.symm) (sm_noleaf_ok) rfl (e.symm.trans h) rfl
noncomputable def lf3_35 (D : sm_D) : Nat → List Value → List Value → sm_D → sm_M → Option (sm_S) := fun pc ls st D' M =>
  if pc = 36 then (match ls, st with
    | [gl0, gl1, gl2], [.int bs0] => (jA_is_36 bs0 D' M)
    | _, _ => none)
  else none
theorem ll3_35 (D : sm_D) {R : sm_S} : ∀ (pc : Nat) (ls st : List Value) (D' : sm_D) (M : sm_M) (v : sm_S), (lf3_35 D) pc ls st D' M = some v → (fun v => v = R) v → sm_WJ smT smCl smSa shC f3 27 pc ls st D' M R := by
  intro pc ls st D' M v h hv
  unfold lf3_35 at h
  by_cases hp0 : pc = 36
  · subst hp0
    rw [if_pos (show (36 : Nat) = 36 from rfl)] at h
    split at h
    · skip
      have hv : v = R := hv
      subst hv
      exact w3_36  h
    · cases h
  · rw [if_neg hp0] at h
    cases h
set_option maxRecDepth 20000 in
set_option maxHeartbeats 4000000 in
theorem w3_35 {g0 g1 g2 : Value} {D : sm_D} {M : sm_M} {R : sm_S} (h : jA_is_35 D M = some R) : sm_WJ smT smCl smSa shC f3 27 35 [g0, g1, g2] [] D M R := by
  have e : jA_is_35 D M = (sm_run shC smSa cal3 c3 true (fun a D M => some (a, D, M)) (lf3_35 D) 24 (c3.drop 17) [g0, g1, g2] [] D M : Option (sm_S)) := rfl
  exact sm_blk (ρ := sm_S) (gd := (fun v => v = R)) (kx := 3) (i := 17) smVC rfl (by decide) ck3 (fun a D M v e1 e2 => by cases e1; exact e2.symm) (ll3_35 D) rfl (e.symm.trans h) rfl
noncomputable def lf3_0 (D : sm_D) : Nat → List Value → List Value → sm_D → sm_M → Option (sm_S) := fun pc ls st D' M =>
  if pc = 35 then (match ls, st with
    | [gl0, gl1, gl2], [] => (jA_is_35 D' M)
    | _, _ => none)
  else if pc = 36 then (match ls, st with
    | [gl0, gl1, gl2], [.int bs0] => (jA_is_36 bs0 D' M)
    | _, _ => none)
  else none
theorem ll3_0 (D : sm_D) {R : sm_S} : ∀ (pc : Nat) (ls st : List Value) (D' : sm_D) (M : sm_M) (v : sm_S), (lf3_0 D) pc ls st D' M = some v → (fun v => v = R) v → sm_WJ smT smCl smSa shC f3 27 pc ls st D' M R := by
  intro pc ls st D' M v h hv
  unfold lf3_0 at h
  by_cases hp0 : pc = 35
  · subst hp0
    rw [if_pos (show (35 : Nat) = 35 from rfl)] at h
    split at h
    · skip
      have hv : v = R := hv
      subst hv
      exact w3_35  h
    · cases h
  · rw [if_neg hp0] at h
    by_cases hp0 : pc = 36
    · subst hp0
      rw [if_pos (show (36 : Nat) = 36 from rfl)] at h
      split at h
      · skip
        have hv : v = R := hv
        subst hv
        exact w3_36  h
      · cases h
    · rw [if_neg hp0] at h
      cases h
set_option maxRecDepth 20000 in
set_option maxHeartbeats 4000000 in
theorem we3 {l1 l2 : Int32} {D : sm_D} {M : sm_M} {R : sm_S} (h : jA_is l1 l2 D M = some R) : sm_WJ smT smCl smSa shC f3 27 0 [.ref 60, .int l1, .int l2] [] D M R := by
  have e : jA_is l1 l2 D M = (sm_run shC smSa cal3 c3 true (fun a D M => some (a, D, M)) (lf3_0 D) 24 (c3.drop 0) [.ref 60, .int l1, .int l2] [] D M : Option (sm_S)) := rfl
  exact sm_blk (ρ := sm_S) (gd := (fun v => v = R)) (kx := 3) (i := 0) smVC rfl (by decide) ck3 (fun a D M v e1 e2 => by cases e1; exact e2.symm) (ll3_0 D) rfl (e.symm.trans h) rfl
theorem m3 {l1 l2 : Int32} {D : sm_D} {M : sm_M} {R : sm_S} (h : jA_is l1 l2 D M = some R) : sm_MJ smT smCl smSa shC f3 27 [.ref 60, .int l1, .int l2] D M R :=
  sm_met (by decide) (Nat.le_of_ble_eq_true rfl) (List.all_eq_true.mp rfl) (we3  h)

-- jA_steps
set_option maxRecDepth 20000 in
set_option maxHeartbeats 4000000 in
theorem we4 {D : sm_D} {M : sm_M} {R : sm_S} (h : jA_steps D M = some R) : sm_WJ smT smCl smSa shC f4 0 0 [.ref 60] [] D M R := by
  have e : jA_steps D M = (sm_run shC smSa sm_nocal c4 false (fun a D M => some (a, D, M)) sm_noleaf 9 (c4.drop 0) [.ref 60] [] D M : Option (sm_S)) := rfl
  exact sm_blk (ρ := sm_S) (gd := (fun v => v = R)) (kx := 4) (i := 0) smVC rfl (by decide) (sm_nocal_ok smT smCl smP smSa shC 0) (fun a D M v e1 e2 => by cases e1; exact e2.symm) (sm_noleaf_ok) rfl (e.symm.trans h) rfl
theorem m4 {D : sm_D} {M : sm_M} {R : sm_S} (h : jA_steps D M = some R) : sm_MJ smT smCl smSa shC f4 0 [.ref 60] D M R :=
  sm_met (by decide) (Nat.le_of_ble_eq_true rfl) (List.all_eq_true.mp rfl) (we4  h)

-- jC_wipe
set_option maxRecDepth 20000 in
set_option maxHeartbeats 4000000 in
theorem we103 (p : Nat) (hp : [p] ∈ gC) {D : sm_D} {M : sm_M} {R : sm_S} (h : jC_wipe p D M = some R) : sm_WJ smT smCl smSa shC f103 0 0 [.ref p] [] D M R := by
  rcases gC_inv hp with rfl | rfl
  · have e : jC_wipe 40 D M = (sm_run shC smSa sm_nocal c103 false (fun a D M => some (a, D, M)) sm_noleaf 21 (c103.drop 0) [.ref 40] [] D M : Option (sm_S)) := rfl
    exact sm_blk (ρ := sm_S) (gd := (fun v => v = R)) (kx := 103) (i := 0) smVC rfl (by decide) (sm_nocal_ok smT smCl smP smSa shC 0) (fun a D M v e1 e2 => by cases e1; exact e2.symm) (sm_noleaf_ok) rfl (e.symm.trans h) rfl
  · have e : jC_wipe 50 D M = (sm_run shC smSa sm_nocal c103 false (fun a D M => some (a, D, M)) sm_noleaf 21 (c103.drop 0) [.ref 50] [] D M : Option (sm_S)) := rfl
    exact sm_blk (ρ := sm_S) (gd := (fun v => v = R)) (kx := 103) (i := 0) smVC rfl (by decide) (sm_nocal_ok smT smCl smP smSa shC 0) (fun a D M v e1 e2 => by cases e1; exact e2.symm) (sm_noleaf_ok) rfl (e.symm.trans h) rfl
theorem m103 {p : Nat} (hp : [p] ∈ gC) {D : sm_D} {M : sm_M} {R : sm_S} (h : jC_wipe p D M = some R) : sm_MJ smT smCl smSa shC f103 0 [.ref p] D M R :=
  sm_met (by decide) (Nat.le_of_ble_eq_true rfl) (List.all_eq_true.mp rfl) (we103 p hp h)

-- jX_fill
def lh173_5 (p L : Nat) (D : sm_D) (R : sm_S) (s : Int32 × Int32 × Int32 × sm_M) : Prop := sm_WJ smT smCl smSa shC f173 0 5 [.ref p, .int (s.1), .int (s.2.1), .int (s.2.2.1)] [] D (s.2.2.2) R
def gd173_5 (p L : Nat) (D : sm_D) (R : sm_S) (v : (Int32 × Int32 × Int32 × sm_M) ⊕ sm_S) : Prop := match v with
  | .inl s => lh173_5 p L D R s
  | .inr r => r = R
noncomputable def lf173_5 (p L : Nat) (D : sm_D) : Nat → List Value → List Value → sm_D → sm_M → Option ((Int32 × Int32 × Int32 × sm_M) ⊕ sm_S) := fun pc ls st D' M =>
  if pc = 5 then (match ls, st with
    | [.ref rl0, .int bl1, .int bl2, .int bl3], [] => (sm_eqp rl0 p (sm_dq D' D (some (.inl (bl1, bl2, bl3, M)))))
    | _, _ => none)
  else none
theorem ll173_5 (p L : Nat) (hg : [p, L] ∈ gF) (D : sm_D) {R : sm_S} : ∀ (pc : Nat) (ls st : List Value) (D' : sm_D) (M : sm_M) (v : (Int32 × Int32 × Int32 × sm_M) ⊕ sm_S), (lf173_5 p L D) pc ls st D' M = some v → (gd173_5 p L D R) v → sm_WJ smT smCl smSa shC f173 0 pc ls st D' M R := by
  intro pc ls st D' M v h hv
  unfold lf173_5 at h
  by_cases hp0 : pc = 5
  · subst hp0
    rw [if_pos (show (5 : Nat) = 5 from rfl)] at h
    split at h
    · skip
      replace h := sm_eqp_inv h
      obtain ⟨he, h⟩ := h
      subst he
      replace h := sm_dq_inv h
      obtain ⟨he, h⟩ := h
      subst he
      cases h
      exact hv
    · cases h
  · rw [if_neg hp0] at h
    cases h
set_option maxRecDepth 20000 in
set_option maxHeartbeats 4000000 in
theorem wc173_5 (p L : Nat) (hg : [p, L] ∈ gF) (D : sm_D) {l1 l2 l3 : Int32} {M : sm_M} {R : sm_S} {v : (Int32 × Int32 × Int32 × sm_M) ⊕ sm_S} (h : jX_fill_5_c p L l1 l2 l3 D M = some v) (hv : (gd173_5 p L D R) v) : sm_WJ smT smCl smSa shC f173 0 5 [.ref p, .int l1, .int l2, .int l3] [] D M R := by
  rcases gF_inv hg with ⟨rfl, rfl⟩ | ⟨rfl, rfl⟩ | ⟨rfl, rfl⟩ | ⟨rfl, rfl⟩
  · have e : jX_fill_5_c 7 128 l1 l2 l3 D M = (sm_run shC smSa sm_nocal c173 false (fun a D M => some (.inr (a, D, M))) (lf173_5 7 128 D) 20 (c173.drop 5) [.ref 7, .int l1, .int l2, .int l3] [] D M : Option ((Int32 × Int32 × Int32 × sm_M) ⊕ sm_S)) := rfl
    exact sm_blk (ρ := (Int32 × Int32 × Int32 × sm_M) ⊕ sm_S) (gd := (gd173_5 7 128 D R)) (kx := 173) (i := 5) smVC rfl (by decide) (sm_nocal_ok smT smCl smP smSa shC 0) (fun a D M v e1 e2 => by cases e1; exact e2.symm) (ll173_5 7 128 (by decide) D) rfl (e.symm.trans h) hv
  · have e : jX_fill_5_c 32 6 l1 l2 l3 D M = (sm_run shC smSa sm_nocal c173 false (fun a D M => some (.inr (a, D, M))) (lf173_5 32 6 D) 20 (c173.drop 5) [.ref 32, .int l1, .int l2, .int l3] [] D M : Option ((Int32 × Int32 × Int32 × sm_M) ⊕ sm_S)) := rfl
    exact sm_blk (ρ := (Int32 × Int32 × Int32 × sm_M) ⊕ sm_S) (gd := (gd173_5 32 6 D R)) (kx := 173) (i := 5) smVC rfl (by decide) (sm_nocal_ok smT smCl smP smSa shC 0) (fun a D M v e1 e2 => by cases e1; exact e2.symm) (ll173_5 32 6 (by decide) D) rfl (e.symm.trans h) hv
  · have e : jX_fill_5_c 34 6 l1 l2 l3 D M = (sm_run shC smSa sm_nocal c173 false (fun a D M => some (.inr (a, D, M))) (lf173_5 34 6 D) 20 (c173.drop 5) [.ref 34, .int l1, .int l2, .int l3] [] D M : Option ((Int32 × Int32 × Int32 × sm_M) ⊕ sm_S)) := rfl
    exact sm_blk (ρ := (Int32 × Int32 × Int32 × sm_M) ⊕ sm_S) (gd := (gd173_5 34 6 D R)) (kx := 173) (i := 5) smVC rfl (by decide) (sm_nocal_ok smT smCl smP smSa shC 0) (fun a D M v e1 e2 => by cases e1; exact e2.symm) (ll173_5 34 6 (by decide) D) rfl (e.symm.trans h) hv
  · have e : jX_fill_5_c 35 6 l1 l2 l3 D M = (sm_run shC smSa sm_nocal c173 false (fun a D M => some (.inr (a, D, M))) (lf173_5 35 6 D) 20 (c173.drop 5) [.ref 35, .int l1, .int l2, .int l3] [] D M : Option ((Int32 × Int32 × Int32 × sm_M) ⊕ sm_S)) := rfl
    exact sm_blk (ρ := (Int32 × Int32 × Int32 × sm_M) ⊕ sm_S) (gd := (gd173_5 35 6 D R)) (kx := 173) (i := 5) smVC rfl (by decide) (sm_nocal_ok smT smCl smP smSa shC 0) (fun a D M v e1 e2 => by cases e1; exact e2.symm) (ll173_5 35 6 (by decide) D) rfl (e.symm.trans h) hv
theorem w173_5 (p L : Nat) (hg : [p, L] ∈ gF) {l1 l2 l3 : Int32} {D : sm_D} {M : sm_M} {R : sm_S} (h : jX_fill_5 p L l1 l2 l3 D M = some R) : sm_WJ smT smCl smSa shC f173 0 5 [.ref p, .int l1, .int l2, .int l3] [] D M R := by
  have hh : lh173_5 p L D R (l1, l2, l3, M) := by
    refine sm_lp_ind (b := jX_fill_5_b p L D) (r := R) (lh173_5 p L D R) ?_ h
    intro s v hb h1 h2
    obtain ⟨z0, z1, z2, M1⟩ := s
    have hv : gd173_5 p L D R v := by
      cases v with
      | inl s' => exact h1 s' rfl
      | inr r => exact h2 r rfl
    exact wc173_5 p L hg D hb hv
  exact hh
noncomputable def lf173_0 (p L : Nat) (D : sm_D) : Nat → List Value → List Value → sm_D → sm_M → Option (sm_S) := fun pc ls st D' M =>
  if pc = 5 then (match ls, st with
    | [.ref rl0, .int bl1, .int bl2, .int bl3], [] => (sm_eqp rl0 p (jX_fill_5 p L bl1 bl2 bl3 D' M))
    | _, _ => none)
  else none
theorem ll173_0 (p L : Nat) (hg : [p, L] ∈ gF) (D : sm_D) {R : sm_S} : ∀ (pc : Nat) (ls st : List Value) (D' : sm_D) (M : sm_M) (v : sm_S), (lf173_0 p L D) pc ls st D' M = some v → (fun v => v = R) v → sm_WJ smT smCl smSa shC f173 0 pc ls st D' M R := by
  intro pc ls st D' M v h hv
  unfold lf173_0 at h
  by_cases hp0 : pc = 5
  · subst hp0
    rw [if_pos (show (5 : Nat) = 5 from rfl)] at h
    split at h
    · skip
      replace h := sm_eqp_inv h
      obtain ⟨he, h⟩ := h
      subst he
      have hv : v = R := hv
      subst hv
      exact w173_5 _ _ hg h
    · cases h
  · rw [if_neg hp0] at h
    cases h
set_option maxRecDepth 20000 in
set_option maxHeartbeats 4000000 in
theorem we173 (p L : Nat) (hg : [p, L] ∈ gF) {l1 : Int32} {D : sm_D} {M : sm_M} {R : sm_S} (h : jX_fill p L l1 D M = some R) : sm_WJ smT smCl smSa shC f173 0 0 [.ref p, .int l1, .retAddr 0, .retAddr 0] [] D M R := by
  rcases gF_inv hg with ⟨rfl, rfl⟩ | ⟨rfl, rfl⟩ | ⟨rfl, rfl⟩ | ⟨rfl, rfl⟩
  · have e : jX_fill 7 128 l1 D M = (sm_run shC smSa sm_nocal c173 false (fun a D M => some (a, D, M)) (lf173_0 7 128 D) 20 (c173.drop 0) [.ref 7, .int l1, .retAddr 0, .retAddr 0] [] D M : Option (sm_S)) := rfl
    exact sm_blk (ρ := sm_S) (gd := (fun v => v = R)) (kx := 173) (i := 0) smVC rfl (by decide) (sm_nocal_ok smT smCl smP smSa shC 0) (fun a D M v e1 e2 => by cases e1; exact e2.symm) (ll173_0 7 128 (by decide) D) rfl (e.symm.trans h) rfl
  · have e : jX_fill 32 6 l1 D M = (sm_run shC smSa sm_nocal c173 false (fun a D M => some (a, D, M)) (lf173_0 32 6 D) 20 (c173.drop 0) [.ref 32, .int l1, .retAddr 0, .retAddr 0] [] D M : Option (sm_S)) := rfl
    exact sm_blk (ρ := sm_S) (gd := (fun v => v = R)) (kx := 173) (i := 0) smVC rfl (by decide) (sm_nocal_ok smT smCl smP smSa shC 0) (fun a D M v e1 e2 => by cases e1; exact e2.symm) (ll173_0 32 6 (by decide) D) rfl (e.symm.trans h) rfl
  · have e : jX_fill 34 6 l1 D M = (sm_run shC smSa sm_nocal c173 false (fun a D M => some (a, D, M)) (lf173_0 34 6 D) 20 (c173.drop 0) [.ref 34, .int l1, .retAddr 0, .retAddr 0] [] D M : Option (sm_S)) := rfl
    exact sm_blk (ρ := sm_S) (gd := (fun v => v = R)) (kx := 173) (i := 0) smVC rfl (by decide) (sm_nocal_ok smT smCl smP smSa shC 0) (fun a D M v e1 e2 => by cases e1; exact e2.symm) (ll173_0 34 6 (by decide) D) rfl (e.symm.trans h) rfl
  · have e : jX_fill 35 6 l1 D M = (sm_run shC smSa sm_nocal c173 false (fun a D M => some (a, D, M)) (lf173_0 35 6 D) 20 (c173.drop 0) [.ref 35, .int l1, .retAddr 0, .retAddr 0] [] D M : Option (sm_S)) := rfl
    exact sm_blk (ρ := sm_S) (gd := (fun v => v = R)) (kx := 173) (i := 0) smVC rfl (by decide) (sm_nocal_ok smT smCl smP smSa shC 0) (fun a D M v e1 e2 => by cases e1; exact e2.symm) (ll173_0 35 6 (by decide) D) rfl (e.symm.trans h) rfl
theorem m173 {p L : Nat} (hg : [p, L] ∈ gF) {l1 : Int32} {D : sm_D} {M : sm_M} {R : sm_S} (h : jX_fill p L l1 D M = some R) : sm_MJ smT smCl smSa shC f173 0 [.ref p, .int l1] D M R :=
  sm_met (by decide) (Nat.le_of_ble_eq_true rfl) (List.all_eq_true.mp rfl) (we173 p L hg h)

-- jM_begin
noncomputable def cal138  : sm_Cal := fun x as D M =>
  if x = 173 then (match as with
    | [.ref q0, .int a1] => (sm_lng shC q0 (fun L => sm_ga [q0, L] gF (jX_fill q0 L a1 D M)))
    | _ => none)
  else none
theorem ck138  : sm_CalOk smT smCl smP smSa shC 1 cal138 := by
  intro x g as D M R hx h
  unfold cal138 at h
  by_cases hx' : x = 173
  · subst hx'
    rw [if_pos (show (173 : Nat) = 173 from rfl)] at h
    cases (show smP[173]? = some f173 from rfl).symm.trans hx
    split at h
    · replace h := sm_lng_inv h
      obtain ⟨L, h⟩ := h
      replace h := sm_ga_inv h
      obtain ⟨h1, h⟩ := h
      exact Or.inl ⟨0, by omega, m173  h1 h⟩
    · cases h
  · rw [if_neg hx'] at h
    cases h
set_option maxRecDepth 20000 in
set_option maxHeartbeats 4000000 in
theorem we138 (p d0 d1 d2 d3 d4 : Nat) (hp : [p] ∈ gC) {M : sm_M} {R : sm_S} (h : jM_begin p d0 d1 d2 d3 d4 M = some R) : sm_WJ smT smCl smSa shC f138 1 0 [.ref 33, .ref p] [] [d0, d1, d2, d3, d4] M R := by
  rcases gC_inv hp with rfl | rfl
  · have e : jM_begin 40 d0 d1 d2 d3 d4 M = (sm_run shC smSa cal138 c138 false (fun a D M => some (a, D, M)) sm_noleaf 34 (c138.drop 0) [.ref 33, .ref 40] [] [d0, d1, d2, d3, d4] M : Option (sm_S)) := rfl
    exact sm_blk (ρ := sm_S) (gd := (fun v => v = R)) (kx := 138) (i := 0) smVC rfl (by decide) ck138 (fun a D M v e1 e2 => by cases e1; exact e2.symm) (sm_noleaf_ok) rfl (e.symm.trans h) rfl
  · have e : jM_begin 50 d0 d1 d2 d3 d4 M = (sm_run shC smSa cal138 c138 false (fun a D M => some (a, D, M)) sm_noleaf 34 (c138.drop 0) [.ref 33, .ref 50] [] [d0, d1, d2, d3, d4] M : Option (sm_S)) := rfl
    exact sm_blk (ρ := sm_S) (gd := (fun v => v = R)) (kx := 138) (i := 0) smVC rfl (by decide) ck138 (fun a D M v e1 e2 => by cases e1; exact e2.symm) (sm_noleaf_ok) rfl (e.symm.trans h) rfl
theorem m138 {p d0 d1 d2 d3 d4 : Nat} (hp : [p] ∈ gC) {M : sm_M} {R : sm_S} (h : jM_begin p d0 d1 d2 d3 d4 M = some R) : sm_MJ smT smCl smSa shC f138 1 [.ref 33, .ref p] [d0, d1, d2, d3, d4] M R :=
  sm_met (by decide) (Nat.le_of_ble_eq_true rfl) (List.all_eq_true.mp rfl) (we138 p d0 d1 d2 d3 d4 hp h)

-- jA_clear
noncomputable def cal5  : sm_Cal := fun x as D M =>
  if x = 103 then (match as with
    | [.ref q0] => (sm_ga [q0] gC (jC_wipe q0 D M))
    | _ => none)
  else if x = 138 then (match as, D with
    | [.ref 33, .ref q1], [e0, e1, e2, e3, e4] => (sm_ga [q1] gC (jM_begin q1 e0 e1 e2 e3 e4 M))
    | _, _ => none)
  else none
theorem ck5  : sm_CalOk smT smCl smP smSa shC 2 cal5 := by
  intro x g as D M R hx h
  unfold cal5 at h
  by_cases hx' : x = 103
  · subst hx'
    rw [if_pos (show (103 : Nat) = 103 from rfl)] at h
    cases (show smP[103]? = some f103 from rfl).symm.trans hx
    split at h
    · replace h := sm_ga_inv h
      obtain ⟨h1, h⟩ := h
      exact Or.inl ⟨0, by omega, m103  h1 h⟩
    · cases h
  · rw [if_neg hx'] at h
    by_cases hx' : x = 138
    · subst hx'
      rw [if_pos (show (138 : Nat) = 138 from rfl)] at h
      cases (show smP[138]? = some f138 from rfl).symm.trans hx
      split at h
      · replace h := sm_ga_inv h
        obtain ⟨h1, h⟩ := h
        exact Or.inl ⟨1, by omega, m138  h1 h⟩
      · cases h
    · rw [if_neg hx'] at h
      cases h
set_option maxRecDepth 20000 in
set_option maxHeartbeats 4000000 in
theorem we5 (d0 d1 d2 d3 d4 : Nat) (hd0 : [d0] ∈ gC) {M : sm_M} {R : sm_S} (h : jA_clear d0 d1 d2 d3 d4 M = some R) : sm_WJ smT smCl smSa shC f5 2 0 [.ref 60] [] [d0, d1, d2, d3, d4] M R := by
  rcases gC_inv hd0 with rfl | rfl
  · have e : jA_clear 40 d1 d2 d3 d4 M = (sm_run shC smSa cal5 c5 false (fun a D M => some (a, D, M)) sm_noleaf 14 (c5.drop 0) [.ref 60] [] [40, d1, d2, d3, d4] M : Option (sm_S)) := rfl
    exact sm_blk (ρ := sm_S) (gd := (fun v => v = R)) (kx := 5) (i := 0) smVC rfl (by decide) ck5 (fun a D M v e1 e2 => by cases e1; exact e2.symm) (sm_noleaf_ok) rfl (e.symm.trans h) rfl
  · have e : jA_clear 50 d1 d2 d3 d4 M = (sm_run shC smSa cal5 c5 false (fun a D M => some (a, D, M)) sm_noleaf 14 (c5.drop 0) [.ref 60] [] [50, d1, d2, d3, d4] M : Option (sm_S)) := rfl
    exact sm_blk (ρ := sm_S) (gd := (fun v => v = R)) (kx := 5) (i := 0) smVC rfl (by decide) ck5 (fun a D M v e1 e2 => by cases e1; exact e2.symm) (sm_noleaf_ok) rfl (e.symm.trans h) rfl
theorem m5 {d0 d1 d2 d3 d4 : Nat} (hd0 : [d0] ∈ gC) {M : sm_M} {R : sm_S} (h : jA_clear d0 d1 d2 d3 d4 M = some R) : sm_MJ smT smCl smSa shC f5 2 [.ref 60] [d0, d1, d2, d3, d4] M R :=
  sm_met (by decide) (Nat.le_of_ble_eq_true rfl) (List.all_eq_true.mp rfl) (we5 d0 d1 d2 d3 d4 hd0 h)

-- jC_reserve
set_option maxRecDepth 20000 in
set_option maxHeartbeats 4000000 in
theorem we108 (p : Nat) (hp : [p] ∈ gC) {D : sm_D} {M : sm_M} {R : sm_S} (h : jC_reserve p D M = some R) : sm_WJ smT smCl smSa shC f108 0 0 [.ref p] [] D M R := by
  rcases gC_inv hp with rfl | rfl
  · have e : jC_reserve 40 D M = (sm_run shC smSa sm_nocal c108 false (fun a D M => some (a, D, M)) sm_noleaf 31 (c108.drop 0) [.ref 40] [] D M : Option (sm_S)) := rfl
    exact sm_blk (ρ := sm_S) (gd := (fun v => v = R)) (kx := 108) (i := 0) smVC rfl (by decide) (sm_nocal_ok smT smCl smP smSa shC 0) (fun a D M v e1 e2 => by cases e1; exact e2.symm) (sm_noleaf_ok) rfl (e.symm.trans h) rfl
  · have e : jC_reserve 50 D M = (sm_run shC smSa sm_nocal c108 false (fun a D M => some (a, D, M)) sm_noleaf 31 (c108.drop 0) [.ref 50] [] D M : Option (sm_S)) := rfl
    exact sm_blk (ρ := sm_S) (gd := (fun v => v = R)) (kx := 108) (i := 0) smVC rfl (by decide) (sm_nocal_ok smT smCl smP smSa shC 0) (fun a D M v e1 e2 => by cases e1; exact e2.symm) (sm_noleaf_ok) rfl (e.symm.trans h) rfl
theorem m108 {p : Nat} (hp : [p] ∈ gC) {D : sm_D} {M : sm_M} {R : sm_S} (h : jC_reserve p D M = some R) : sm_MJ smT smCl smSa shC f108 0 [.ref p] D M R :=
  sm_met (by decide) (Nat.le_of_ble_eq_true rfl) (List.all_eq_true.mp rfl) (we108 p hp h)

-- jC_hasBlock
set_option maxRecDepth 20000 in
set_option maxHeartbeats 4000000 in
theorem w104_17 (p : Nat) (hp : [p] ∈ gC) {s0 : Int32} {g0 g1 : Value} {D : sm_D} {M : sm_M} {R : sm_S} (h : jC_hasBlock_17 p s0 D M = some R) : sm_WJ smT smCl smSa shC f104 0 17 [g0, g1] [.int s0] D M R := by
  rcases gC_inv hp with rfl | rfl
  · have e : jC_hasBlock_17 40 s0 D M = (sm_run shC smSa sm_nocal c104 true (fun a D M => some (a, D, M)) sm_noleaf 15 (c104.drop 9) [g0, g1] [.int s0] D M : Option (sm_S)) := rfl
    exact sm_blk (ρ := sm_S) (gd := (fun v => v = R)) (kx := 104) (i := 9) smVC rfl (by decide) (sm_nocal_ok smT smCl smP smSa shC 0) (fun a D M v e1 e2 => by cases e1; exact e2.symm) (sm_noleaf_ok) rfl (e.symm.trans h) rfl
  · have e : jC_hasBlock_17 50 s0 D M = (sm_run shC smSa sm_nocal c104 true (fun a D M => some (a, D, M)) sm_noleaf 15 (c104.drop 9) [g0, g1] [.int s0] D M : Option (sm_S)) := rfl
    exact sm_blk (ρ := sm_S) (gd := (fun v => v = R)) (kx := 104) (i := 9) smVC rfl (by decide) (sm_nocal_ok smT smCl smP smSa shC 0) (fun a D M v e1 e2 => by cases e1; exact e2.symm) (sm_noleaf_ok) rfl (e.symm.trans h) rfl
noncomputable def lf104_16 (p : Nat) (D : sm_D) : Nat → List Value → List Value → sm_D → sm_M → Option (sm_S) := fun pc ls st D' M =>
  if pc = 17 then (match ls, st with
    | [gl0, gl1], [.int bs0] => (jC_hasBlock_17 p bs0 D' M)
    | _, _ => none)
  else none
theorem ll104_16 (p : Nat) (hp : [p] ∈ gC) (D : sm_D) {R : sm_S} : ∀ (pc : Nat) (ls st : List Value) (D' : sm_D) (M : sm_M) (v : sm_S), (lf104_16 p D) pc ls st D' M = some v → (fun v => v = R) v → sm_WJ smT smCl smSa shC f104 0 pc ls st D' M R := by
  intro pc ls st D' M v h hv
  unfold lf104_16 at h
  by_cases hp0 : pc = 17
  · subst hp0
    rw [if_pos (show (17 : Nat) = 17 from rfl)] at h
    split at h
    · skip
      have hv : v = R := hv
      subst hv
      exact w104_17 _ hp h
    · cases h
  · rw [if_neg hp0] at h
    cases h
set_option maxRecDepth 20000 in
set_option maxHeartbeats 4000000 in
theorem w104_16 (p : Nat) (hp : [p] ∈ gC) {g0 g1 : Value} {D : sm_D} {M : sm_M} {R : sm_S} (h : jC_hasBlock_16 p D M = some R) : sm_WJ smT smCl smSa shC f104 0 16 [g0, g1] [] D M R := by
  rcases gC_inv hp with rfl | rfl
  · have e : jC_hasBlock_16 40 D M = (sm_run shC smSa sm_nocal c104 true (fun a D M => some (a, D, M)) (lf104_16 40 D) 15 (c104.drop 8) [g0, g1] [] D M : Option (sm_S)) := rfl
    exact sm_blk (ρ := sm_S) (gd := (fun v => v = R)) (kx := 104) (i := 8) smVC rfl (by decide) (sm_nocal_ok smT smCl smP smSa shC 0) (fun a D M v e1 e2 => by cases e1; exact e2.symm) (ll104_16 40 (by decide) D) rfl (e.symm.trans h) rfl
  · have e : jC_hasBlock_16 50 D M = (sm_run shC smSa sm_nocal c104 true (fun a D M => some (a, D, M)) (lf104_16 50 D) 15 (c104.drop 8) [g0, g1] [] D M : Option (sm_S)) := rfl
    exact sm_blk (ρ := sm_S) (gd := (fun v => v = R)) (kx := 104) (i := 8) smVC rfl (by decide) (sm_nocal_ok smT smCl smP smSa shC 0) (fun a D M v e1 e2 => by cases e1; exact e2.symm) (ll104_16 50 (by decide) D) rfl (e.symm.trans h) rfl
noncomputable def lf104_0 (p : Nat) (D : sm_D) : Nat → List Value → List Value → sm_D → sm_M → Option (sm_S) := fun pc ls st D' M =>
  if pc = 16 then (match ls, st with
    | [gl0, gl1], [] => (jC_hasBlock_16 p D' M)
    | _, _ => none)
  else if pc = 17 then (match ls, st with
    | [gl0, gl1], [.int bs0] => (jC_hasBlock_17 p bs0 D' M)
    | _, _ => none)
  else none
theorem ll104_0 (p : Nat) (hp : [p] ∈ gC) (D : sm_D) {R : sm_S} : ∀ (pc : Nat) (ls st : List Value) (D' : sm_D) (M : sm_M) (v : sm_S), (lf104_0 p D) pc ls st D' M = some v → (fun v => v = R) v → sm_WJ smT smCl smSa shC f104 0 pc ls st D' M R := by
  intro pc ls st D' M v h hv
  unfold lf104_0 at h
  by_cases hp0 : pc = 16
  · subst hp0
    rw [if_pos (show (16 : Nat) = 16 from rfl)] at h
    split at h
    · skip
      have hv : v = R := hv
      subst hv
      exact w104_16 _ hp h
    · cases h
  · rw [if_neg hp0] at h
    by_cases hp0 : pc = 17
    · subst hp0
      rw [if_pos (show (17 : Nat) = 17 from rfl)] at h
      split at h
      · skip
        have hv : v = R := hv
        subst hv
        exact w104_17 _ hp h
      · cases h
    · rw [if_neg hp0] at h
      cases h
set_option maxRecDepth 20000 in
set_option maxHeartbeats 4000000 in
theorem we104 (p : Nat) (hp : [p] ∈ gC) {l1 : Int32} {D : sm_D} {M : sm_M} {R : sm_S} (h : jC_hasBlock p l1 D M = some R) : sm_WJ smT smCl smSa shC f104 0 0 [.ref p, .int l1] [] D M R := by
  rcases gC_inv hp with rfl | rfl
  · have e : jC_hasBlock 40 l1 D M = (sm_run shC smSa sm_nocal c104 true (fun a D M => some (a, D, M)) (lf104_0 40 D) 15 (c104.drop 0) [.ref 40, .int l1] [] D M : Option (sm_S)) := rfl
    exact sm_blk (ρ := sm_S) (gd := (fun v => v = R)) (kx := 104) (i := 0) smVC rfl (by decide) (sm_nocal_ok smT smCl smP smSa shC 0) (fun a D M v e1 e2 => by cases e1; exact e2.symm) (ll104_0 40 (by decide) D) rfl (e.symm.trans h) rfl
  · have e : jC_hasBlock 50 l1 D M = (sm_run shC smSa sm_nocal c104 true (fun a D M => some (a, D, M)) (lf104_0 50 D) 15 (c104.drop 0) [.ref 50, .int l1] [] D M : Option (sm_S)) := rfl
    exact sm_blk (ρ := sm_S) (gd := (fun v => v = R)) (kx := 104) (i := 0) smVC rfl (by decide) (sm_nocal_ok smT smCl smP smSa shC 0) (fun a D M v e1 e2 => by cases e1; exact e2.symm) (ll104_0 50 (by decide) D) rfl (e.symm.trans h) rfl
theorem m104 {p : Nat} (hp : [p] ∈ gC) {l1 : Int32} {D : sm_D} {M : sm_M} {R : sm_S} (h : jC_hasBlock p l1 D M = some R) : sm_MJ smT smCl smSa shC f104 0 [.ref p, .int l1] D M R :=
  sm_met (by decide) (Nat.le_of_ble_eq_true rfl) (List.all_eq_true.mp rfl) (we104 p hp h)

-- jC_ask
noncomputable def cal110  : sm_Cal := fun x as D M =>
  if x = 156 then (match as with
    | [.ref 1, .int a1] => (jT_sizeOf a1 D M)
    | _ => none)
  else none
theorem ck110  : sm_CalOk smT smCl smP smSa shC 1 cal110 := by
  intro x g as D M R hx h
  unfold cal110 at h
  by_cases hx' : x = 156
  · subst hx'
    rw [if_pos (show (156 : Nat) = 156 from rfl)] at h
    cases (show smP[156]? = some f156 from rfl).symm.trans hx
    split at h
    · skip
      exact Or.inl ⟨0, by omega, m156   h⟩
    · cases h
  · rw [if_neg hx'] at h
    cases h
set_option maxRecDepth 20000 in
set_option maxHeartbeats 4000000 in
theorem we110 (p : Nat) (hp : [p] ∈ gC) {l1 l2 : Int32} {D : sm_D} {M : sm_M} {R : sm_S} (h : jC_ask p l1 l2 D M = some R) : sm_WJ smT smCl smSa shC f110 1 0 [.ref p, .int l1, .int l2] [] D M R := by
  rcases gC_inv hp with rfl | rfl
  · have e : jC_ask 40 l1 l2 D M = (sm_run shC smSa cal110 c110 false (fun a D M => some (a, D, M)) sm_noleaf 19 (c110.drop 0) [.ref 40, .int l1, .int l2] [] D M : Option (sm_S)) := rfl
    exact sm_blk (ρ := sm_S) (gd := (fun v => v = R)) (kx := 110) (i := 0) smVC rfl (by decide) ck110 (fun a D M v e1 e2 => by cases e1; exact e2.symm) (sm_noleaf_ok) rfl (e.symm.trans h) rfl
  · have e : jC_ask 50 l1 l2 D M = (sm_run shC smSa cal110 c110 false (fun a D M => some (a, D, M)) sm_noleaf 19 (c110.drop 0) [.ref 50, .int l1, .int l2] [] D M : Option (sm_S)) := rfl
    exact sm_blk (ρ := sm_S) (gd := (fun v => v = R)) (kx := 110) (i := 0) smVC rfl (by decide) ck110 (fun a D M v e1 e2 => by cases e1; exact e2.symm) (sm_noleaf_ok) rfl (e.symm.trans h) rfl
theorem m110 {p : Nat} (hp : [p] ∈ gC) {l1 l2 : Int32} {D : sm_D} {M : sm_M} {R : sm_S} (h : jC_ask p l1 l2 D M = some R) : sm_MJ smT smCl smSa shC f110 1 [.ref p, .int l1, .int l2] D M R :=
  sm_met (by decide) (Nat.le_of_ble_eq_true rfl) (List.all_eq_true.mp rfl) (we110 p hp h)

-- jC_open
noncomputable def cal109  : sm_Cal := fun x as D M =>
  if x = 104 then (match as with
    | [.ref q0, .int a1] => (sm_ga [q0] gC (jC_hasBlock q0 a1 D M))
    | _ => none)
  else if x = 110 then (match as with
    | [.ref q0, .int a1, .int a2] => (sm_ga [q0] gC (jC_ask q0 a1 a2 D M))
    | _ => none)
  else none
theorem ck109  : sm_CalOk smT smCl smP smSa shC 2 cal109 := by
  intro x g as D M R hx h
  unfold cal109 at h
  by_cases hx' : x = 104
  · subst hx'
    rw [if_pos (show (104 : Nat) = 104 from rfl)] at h
    cases (show smP[104]? = some f104 from rfl).symm.trans hx
    split at h
    · replace h := sm_ga_inv h
      obtain ⟨h1, h⟩ := h
      exact Or.inl ⟨0, by omega, m104  h1 h⟩
    · cases h
  · rw [if_neg hx'] at h
    by_cases hx' : x = 110
    · subst hx'
      rw [if_pos (show (110 : Nat) = 110 from rfl)] at h
      cases (show smP[110]? = some f110 from rfl).symm.trans hx
      split at h
      · replace h := sm_ga_inv h
        obtain ⟨h1, h⟩ := h
        exact Or.inl ⟨1, by omega, m110  h1 h⟩
      · cases h
    · rw [if_neg hx'] at h
      cases h
set_option maxRecDepth 20000 in
set_option maxHeartbeats 4000000 in
theorem we109 (p : Nat) (hp : [p] ∈ gC) {l1 l2 l3 l4 : Int32} {D : sm_D} {M : sm_M} {R : sm_S} (h : jC_open p l1 l2 l3 l4 D M = some R) : sm_WJ smT smCl smSa shC f109 2 0 [.ref p, .int l1, .int l2, .int l3, .int l4] [] D M R := by
  rcases gC_inv hp with rfl | rfl
  · have e : jC_open 40 l1 l2 l3 l4 D M = (sm_run shC smSa cal109 c109 false (fun a D M => some (a, D, M)) sm_noleaf 42 (c109.drop 0) [.ref 40, .int l1, .int l2, .int l3, .int l4] [] D M : Option (sm_S)) := rfl
    exact sm_blk (ρ := sm_S) (gd := (fun v => v = R)) (kx := 109) (i := 0) smVC rfl (by decide) ck109 (fun a D M v e1 e2 => by cases e1; exact e2.symm) (sm_noleaf_ok) rfl (e.symm.trans h) rfl
  · have e : jC_open 50 l1 l2 l3 l4 D M = (sm_run shC smSa cal109 c109 false (fun a D M => some (a, D, M)) sm_noleaf 42 (c109.drop 0) [.ref 50, .int l1, .int l2, .int l3, .int l4] [] D M : Option (sm_S)) := rfl
    exact sm_blk (ρ := sm_S) (gd := (fun v => v = R)) (kx := 109) (i := 0) smVC rfl (by decide) ck109 (fun a D M v e1 e2 => by cases e1; exact e2.symm) (sm_noleaf_ok) rfl (e.symm.trans h) rfl
theorem m109 {p : Nat} (hp : [p] ∈ gC) {l1 l2 l3 l4 : Int32} {D : sm_D} {M : sm_M} {R : sm_S} (h : jC_open p l1 l2 l3 l4 D M = some R) : sm_MJ smT smCl smSa shC f109 2 [.ref p, .int l1, .int l2, .int l3, .int l4] D M R :=
  sm_met (by decide) (Nat.le_of_ble_eq_true rfl) (List.all_eq_true.mp rfl) (we109 p hp h)

-- jA_block
noncomputable def cal6  : sm_Cal := fun x as D M =>
  if x = 151 then (match as with
    | [.ref 1, .int a1, .int a2, .int a3] => (jT_canAsk a1 a2 a3 D M)
    | _ => none)
  else if x = 108 then (match as with
    | [.ref q0] => (sm_ga [q0] gC (jC_reserve q0 D M))
    | _ => none)
  else if x = 109 then (match as with
    | [.ref q0, .int a1, .int a2, .int a3, .int a4] => (sm_ga [q0] gC (jC_open q0 a1 a2 a3 a4 D M))
    | _ => none)
  else if x = 138 then (match as, D with
    | [.ref 33, .ref q1], [e0, e1, e2, e3, e4] => (sm_ga [q1] gC (jM_begin q1 e0 e1 e2 e3 e4 M))
    | _, _ => none)
  else none
theorem ck6  : sm_CalOk smT smCl smP smSa shC 3 cal6 := by
  intro x g as D M R hx h
  unfold cal6 at h
  by_cases hx' : x = 151
  · subst hx'
    rw [if_pos (show (151 : Nat) = 151 from rfl)] at h
    cases (show smP[151]? = some f151 from rfl).symm.trans hx
    split at h
    · skip
      exact Or.inl ⟨1, by omega, m151   h⟩
    · cases h
  · rw [if_neg hx'] at h
    by_cases hx' : x = 108
    · subst hx'
      rw [if_pos (show (108 : Nat) = 108 from rfl)] at h
      cases (show smP[108]? = some f108 from rfl).symm.trans hx
      split at h
      · replace h := sm_ga_inv h
        obtain ⟨h1, h⟩ := h
        exact Or.inl ⟨0, by omega, m108  h1 h⟩
      · cases h
    · rw [if_neg hx'] at h
      by_cases hx' : x = 109
      · subst hx'
        rw [if_pos (show (109 : Nat) = 109 from rfl)] at h
        cases (show smP[109]? = some f109 from rfl).symm.trans hx
        split at h
        · replace h := sm_ga_inv h
          obtain ⟨h1, h⟩ := h
          exact Or.inl ⟨2, by omega, m109  h1 h⟩
        · cases h
      · rw [if_neg hx'] at h
        by_cases hx' : x = 138
        · subst hx'
          rw [if_pos (show (138 : Nat) = 138 from rfl)] at h
          cases (show smP[138]? = some f138 from rfl).symm.trans hx
          split at h
          · replace h := sm_ga_inv h
            obtain ⟨h1, h⟩ := h
            exact Or.inl ⟨1, by omega, m138  h1 h⟩
          · cases h
        · rw [if_neg hx'] at h
          cases h
set_option maxRecDepth 20000 in
set_option maxHeartbeats 4000000 in
theorem w6_35 (d0 d1 d2 d3 d4 : Nat) (hd0 : [d0] ∈ gC) {g0 g1 g2 g3 g4 : Value} {M : sm_M} {R : sm_S} (h : jA_block_35 d0 d1 d2 d3 d4 M = some R) : sm_WJ smT smCl smSa shC f6 3 35 [g0, g1, g2, g3, g4] [] [d0, d1, d2, d3, d4] M R := by
  rcases gC_inv hd0 with rfl | rfl
  · have e : jA_block_35 40 d1 d2 d3 d4 M = (sm_run shC smSa cal6 c6 false (fun a D M => some (a, D, M)) sm_noleaf 41 (c6.drop 16) [g0, g1, g2, g3, g4] [] [40, d1, d2, d3, d4] M : Option (sm_S)) := rfl
    exact sm_blk (ρ := sm_S) (gd := (fun v => v = R)) (kx := 6) (i := 16) smVC rfl (by decide) ck6 (fun a D M v e1 e2 => by cases e1; exact e2.symm) (sm_noleaf_ok) rfl (e.symm.trans h) rfl
  · have e : jA_block_35 50 d1 d2 d3 d4 M = (sm_run shC smSa cal6 c6 false (fun a D M => some (a, D, M)) sm_noleaf 41 (c6.drop 16) [g0, g1, g2, g3, g4] [] [50, d1, d2, d3, d4] M : Option (sm_S)) := rfl
    exact sm_blk (ρ := sm_S) (gd := (fun v => v = R)) (kx := 6) (i := 16) smVC rfl (by decide) ck6 (fun a D M v e1 e2 => by cases e1; exact e2.symm) (sm_noleaf_ok) rfl (e.symm.trans h) rfl
noncomputable def lf6_0 (d0 d1 d2 d3 d4 : Nat) : Nat → List Value → List Value → sm_D → sm_M → Option (sm_S) := fun pc ls st D' M =>
  if pc = 35 then (match ls, st with
    | [gl0, gl1, gl2, gl3, gl4], [] => (sm_dq D' [d0, d1, d2, d3, d4] (jA_block_35 d0 d1 d2 d3 d4 M))
    | _, _ => none)
  else none
theorem ll6_0 (d0 d1 d2 d3 d4 : Nat) (hd0 : [d0] ∈ gC) {R : sm_S} : ∀ (pc : Nat) (ls st : List Value) (D' : sm_D) (M : sm_M) (v : sm_S), (lf6_0 d0 d1 d2 d3 d4) pc ls st D' M = some v → (fun v => v = R) v → sm_WJ smT smCl smSa shC f6 3 pc ls st D' M R := by
  intro pc ls st D' M v h hv
  unfold lf6_0 at h
  by_cases hp0 : pc = 35
  · subst hp0
    rw [if_pos (show (35 : Nat) = 35 from rfl)] at h
    split at h
    · skip
      replace h := sm_dq_inv h
      obtain ⟨he, h⟩ := h
      subst he
      have hv : v = R := hv
      subst hv
      exact w6_35 _ _ _ _ _ hd0 h
    · cases h
  · rw [if_neg hp0] at h
    cases h
set_option maxRecDepth 20000 in
set_option maxHeartbeats 4000000 in
theorem we6 (d0 d1 d2 d3 d4 : Nat) (hd0 : [d0] ∈ gC) {l1 l2 l3 : Int32} {M : sm_M} {R : sm_S} (h : jA_block d0 d1 d2 d3 d4 l1 l2 l3 M = some R) : sm_WJ smT smCl smSa shC f6 3 0 [.ref 60, .int l1, .int l2, .int l3, .retAddr 0] [] [d0, d1, d2, d3, d4] M R := by
  rcases gC_inv hd0 with rfl | rfl
  · have e : jA_block 40 d1 d2 d3 d4 l1 l2 l3 M = (sm_run shC smSa cal6 c6 false (fun a D M => some (a, D, M)) (lf6_0 40 d1 d2 d3 d4) 41 (c6.drop 0) [.ref 60, .int l1, .int l2, .int l3, .retAddr 0] [] [40, d1, d2, d3, d4] M : Option (sm_S)) := rfl
    exact sm_blk (ρ := sm_S) (gd := (fun v => v = R)) (kx := 6) (i := 0) smVC rfl (by decide) ck6 (fun a D M v e1 e2 => by cases e1; exact e2.symm) (ll6_0 40 d1 d2 d3 d4 (by decide)) rfl (e.symm.trans h) rfl
  · have e : jA_block 50 d1 d2 d3 d4 l1 l2 l3 M = (sm_run shC smSa cal6 c6 false (fun a D M => some (a, D, M)) (lf6_0 50 d1 d2 d3 d4) 41 (c6.drop 0) [.ref 60, .int l1, .int l2, .int l3, .retAddr 0] [] [50, d1, d2, d3, d4] M : Option (sm_S)) := rfl
    exact sm_blk (ρ := sm_S) (gd := (fun v => v = R)) (kx := 6) (i := 0) smVC rfl (by decide) ck6 (fun a D M v e1 e2 => by cases e1; exact e2.symm) (ll6_0 50 d1 d2 d3 d4 (by decide)) rfl (e.symm.trans h) rfl
theorem m6 {d0 d1 d2 d3 d4 : Nat} (hd0 : [d0] ∈ gC) {l1 l2 l3 : Int32} {M : sm_M} {R : sm_S} (h : jA_block d0 d1 d2 d3 d4 l1 l2 l3 M = some R) : sm_MJ smT smCl smSa shC f6 3 [.ref 60, .int l1, .int l2, .int l3] [d0, d1, d2, d3, d4] M R :=
  sm_met (by decide) (Nat.le_of_ble_eq_true rfl) (List.all_eq_true.mp rfl) (we6 d0 d1 d2 d3 d4 hd0 h)

-- jC_fits
noncomputable def cal112  : sm_Cal := fun x as D M =>
  if x = 152 then (match as with
    | [.ref 1, .int a1] => (jT_kindOf a1 D M)
    | _ => none)
  else none
theorem ck112  : sm_CalOk smT smCl smP smSa shC 2 cal112 := by
  intro x g as D M R hx h
  unfold cal112 at h
  by_cases hx' : x = 152
  · subst hx'
    rw [if_pos (show (152 : Nat) = 152 from rfl)] at h
    cases (show smP[152]? = some f152 from rfl).symm.trans hx
    split at h
    · skip
      exact Or.inl ⟨1, by omega, m152   h⟩
    · cases h
  · rw [if_neg hx'] at h
    cases h
set_option maxRecDepth 20000 in
set_option maxHeartbeats 4000000 in
theorem w112_47 (p : Nat) (hp : [p] ∈ gC) {s0 : Int32} {g0 g1 g2 : Value} {D : sm_D} {M : sm_M} {R : sm_S} (h : jC_fits_47 p s0 D M = some R) : sm_WJ smT smCl smSa shC f112 2 47 [g0, g1, g2] [.int s0] D M R := by
  rcases gC_inv hp with rfl | rfl
  · have e : jC_fits_47 40 s0 D M = (sm_run shC smSa cal112 c112 true (fun a D M => some (a, D, M)) sm_noleaf 53 (c112.drop 11) [g0, g1, g2] [.int s0] D M : Option (sm_S)) := rfl
    exact sm_blk (ρ := sm_S) (gd := (fun v => v = R)) (kx := 112) (i := 11) smVC rfl (by decide) ck112 (fun a D M v e1 e2 => by cases e1; exact e2.symm) (sm_noleaf_ok) rfl (e.symm.trans h) rfl
  · have e : jC_fits_47 50 s0 D M = (sm_run shC smSa cal112 c112 true (fun a D M => some (a, D, M)) sm_noleaf 53 (c112.drop 11) [g0, g1, g2] [.int s0] D M : Option (sm_S)) := rfl
    exact sm_blk (ρ := sm_S) (gd := (fun v => v = R)) (kx := 112) (i := 11) smVC rfl (by decide) ck112 (fun a D M v e1 e2 => by cases e1; exact e2.symm) (sm_noleaf_ok) rfl (e.symm.trans h) rfl
noncomputable def lf112_46 (p : Nat) (D : sm_D) : Nat → List Value → List Value → sm_D → sm_M → Option (sm_S) := fun pc ls st D' M =>
  if pc = 47 then (match ls, st with
    | [gl0, gl1, gl2], [.int bs0] => (jC_fits_47 p bs0 D' M)
    | _, _ => none)
  else none
theorem ll112_46 (p : Nat) (hp : [p] ∈ gC) (D : sm_D) {R : sm_S} : ∀ (pc : Nat) (ls st : List Value) (D' : sm_D) (M : sm_M) (v : sm_S), (lf112_46 p D) pc ls st D' M = some v → (fun v => v = R) v → sm_WJ smT smCl smSa shC f112 2 pc ls st D' M R := by
  intro pc ls st D' M v h hv
  unfold lf112_46 at h
  by_cases hp0 : pc = 47
  · subst hp0
    rw [if_pos (show (47 : Nat) = 47 from rfl)] at h
    split at h
    · skip
      have hv : v = R := hv
      subst hv
      exact w112_47 _ hp h
    · cases h
  · rw [if_neg hp0] at h
    cases h
set_option maxRecDepth 20000 in
set_option maxHeartbeats 4000000 in
theorem w112_46 (p : Nat) (hp : [p] ∈ gC) {g0 g1 g2 : Value} {D : sm_D} {M : sm_M} {R : sm_S} (h : jC_fits_46 p D M = some R) : sm_WJ smT smCl smSa shC f112 2 46 [g0, g1, g2] [] D M R := by
  rcases gC_inv hp with rfl | rfl
  · have e : jC_fits_46 40 D M = (sm_run shC smSa cal112 c112 true (fun a D M => some (a, D, M)) (lf112_46 40 D) 53 (c112.drop 10) [g0, g1, g2] [] D M : Option (sm_S)) := rfl
    exact sm_blk (ρ := sm_S) (gd := (fun v => v = R)) (kx := 112) (i := 10) smVC rfl (by decide) ck112 (fun a D M v e1 e2 => by cases e1; exact e2.symm) (ll112_46 40 (by decide) D) rfl (e.symm.trans h) rfl
  · have e : jC_fits_46 50 D M = (sm_run shC smSa cal112 c112 true (fun a D M => some (a, D, M)) (lf112_46 50 D) 53 (c112.drop 10) [g0, g1, g2] [] D M : Option (sm_S)) := rfl
    exact sm_blk (ρ := sm_S) (gd := (fun v => v = R)) (kx := 112) (i := 10) smVC rfl (by decide) ck112 (fun a D M v e1 e2 => by cases e1; exact e2.symm) (ll112_46 50 (by decide) D) rfl (e.symm.trans h) rfl
set_option maxRecDepth 20000 in
set_option maxHeartbeats 4000000 in
theorem w112_63 (p : Nat) (hp : [p] ∈ gC) {s0 : Int32} {g0 g1 g2 : Value} {D : sm_D} {M : sm_M} {R : sm_S} (h : jC_fits_63 p s0 D M = some R) : sm_WJ smT smCl smSa shC f112 2 63 [g0, g1, g2] [.int s0] D M R := by
  rcases gC_inv hp with rfl | rfl
  · have e : jC_fits_63 40 s0 D M = (sm_run shC smSa cal112 c112 true (fun a D M => some (a, D, M)) sm_noleaf 53 (c112.drop 20) [g0, g1, g2] [.int s0] D M : Option (sm_S)) := rfl
    exact sm_blk (ρ := sm_S) (gd := (fun v => v = R)) (kx := 112) (i := 20) smVC rfl (by decide) ck112 (fun a D M v e1 e2 => by cases e1; exact e2.symm) (sm_noleaf_ok) rfl (e.symm.trans h) rfl
  · have e : jC_fits_63 50 s0 D M = (sm_run shC smSa cal112 c112 true (fun a D M => some (a, D, M)) sm_noleaf 53 (c112.drop 20) [g0, g1, g2] [.int s0] D M : Option (sm_S)) := rfl
    exact sm_blk (ρ := sm_S) (gd := (fun v => v = R)) (kx := 112) (i := 20) smVC rfl (by decide) ck112 (fun a D M v e1 e2 => by cases e1; exact e2.symm) (sm_noleaf_ok) rfl (e.symm.trans h) rfl
noncomputable def lf112_62 (p : Nat) (D : sm_D) : Nat → List Value → List Value → sm_D → sm_M → Option (sm_S) := fun pc ls st D' M =>
  if pc = 63 then (match ls, st with
    | [gl0, gl1, gl2], [.int bs0] => (jC_fits_63 p bs0 D' M)
    | _, _ => none)
  else none
theorem ll112_62 (p : Nat) (hp : [p] ∈ gC) (D : sm_D) {R : sm_S} : ∀ (pc : Nat) (ls st : List Value) (D' : sm_D) (M : sm_M) (v : sm_S), (lf112_62 p D) pc ls st D' M = some v → (fun v => v = R) v → sm_WJ smT smCl smSa shC f112 2 pc ls st D' M R := by
  intro pc ls st D' M v h hv
  unfold lf112_62 at h
  by_cases hp0 : pc = 63
  · subst hp0
    rw [if_pos (show (63 : Nat) = 63 from rfl)] at h
    split at h
    · skip
      have hv : v = R := hv
      subst hv
      exact w112_63 _ hp h
    · cases h
  · rw [if_neg hp0] at h
    cases h
set_option maxRecDepth 20000 in
set_option maxHeartbeats 4000000 in
theorem w112_62 (p : Nat) (hp : [p] ∈ gC) {g0 g1 g2 : Value} {D : sm_D} {M : sm_M} {R : sm_S} (h : jC_fits_62 p D M = some R) : sm_WJ smT smCl smSa shC f112 2 62 [g0, g1, g2] [] D M R := by
  rcases gC_inv hp with rfl | rfl
  · have e : jC_fits_62 40 D M = (sm_run shC smSa cal112 c112 true (fun a D M => some (a, D, M)) (lf112_62 40 D) 53 (c112.drop 19) [g0, g1, g2] [] D M : Option (sm_S)) := rfl
    exact sm_blk (ρ := sm_S) (gd := (fun v => v = R)) (kx := 112) (i := 19) smVC rfl (by decide) ck112 (fun a D M v e1 e2 => by cases e1; exact e2.symm) (ll112_62 40 (by decide) D) rfl (e.symm.trans h) rfl
  · have e : jC_fits_62 50 D M = (sm_run shC smSa cal112 c112 true (fun a D M => some (a, D, M)) (lf112_62 50 D) 53 (c112.drop 19) [g0, g1, g2] [] D M : Option (sm_S)) := rfl
    exact sm_blk (ρ := sm_S) (gd := (fun v => v = R)) (kx := 112) (i := 19) smVC rfl (by decide) ck112 (fun a D M v e1 e2 => by cases e1; exact e2.symm) (ll112_62 50 (by decide) D) rfl (e.symm.trans h) rfl
set_option maxRecDepth 20000 in
set_option maxHeartbeats 4000000 in
theorem w112_78 (p : Nat) (hp : [p] ∈ gC) {s0 : Int32} {g0 g1 g2 : Value} {D : sm_D} {M : sm_M} {R : sm_S} (h : jC_fits_78 p s0 D M = some R) : sm_WJ smT smCl smSa shC f112 2 78 [g0, g1, g2] [.int s0] D M R := by
  rcases gC_inv hp with rfl | rfl
  · have e : jC_fits_78 40 s0 D M = (sm_run shC smSa cal112 c112 true (fun a D M => some (a, D, M)) sm_noleaf 53 (c112.drop 29) [g0, g1, g2] [.int s0] D M : Option (sm_S)) := rfl
    exact sm_blk (ρ := sm_S) (gd := (fun v => v = R)) (kx := 112) (i := 29) smVC rfl (by decide) ck112 (fun a D M v e1 e2 => by cases e1; exact e2.symm) (sm_noleaf_ok) rfl (e.symm.trans h) rfl
  · have e : jC_fits_78 50 s0 D M = (sm_run shC smSa cal112 c112 true (fun a D M => some (a, D, M)) sm_noleaf 53 (c112.drop 29) [g0, g1, g2] [.int s0] D M : Option (sm_S)) := rfl
    exact sm_blk (ρ := sm_S) (gd := (fun v => v = R)) (kx := 112) (i := 29) smVC rfl (by decide) ck112 (fun a D M v e1 e2 => by cases e1; exact e2.symm) (sm_noleaf_ok) rfl (e.symm.trans h) rfl
noncomputable def lf112_73 (p : Nat) (D : sm_D) : Nat → List Value → List Value → sm_D → sm_M → Option (sm_S) := fun pc ls st D' M =>
  if pc = 78 then (match ls, st with
    | [gl0, gl1, gl2], [.int bs0] => (jC_fits_78 p bs0 D' M)
    | _, _ => none)
  else none
theorem ll112_73 (p : Nat) (hp : [p] ∈ gC) (D : sm_D) {R : sm_S} : ∀ (pc : Nat) (ls st : List Value) (D' : sm_D) (M : sm_M) (v : sm_S), (lf112_73 p D) pc ls st D' M = some v → (fun v => v = R) v → sm_WJ smT smCl smSa shC f112 2 pc ls st D' M R := by
  intro pc ls st D' M v h hv
  unfold lf112_73 at h
  by_cases hp0 : pc = 78
  · subst hp0
    rw [if_pos (show (78 : Nat) = 78 from rfl)] at h
    split at h
    · skip
      have hv : v = R := hv
      subst hv
      exact w112_78 _ hp h
    · cases h
  · rw [if_neg hp0] at h
    cases h
set_option maxRecDepth 20000 in
set_option maxHeartbeats 4000000 in
theorem w112_73 (p : Nat) (hp : [p] ∈ gC) {g0 g1 g2 : Value} {D : sm_D} {M : sm_M} {R : sm_S} (h : jC_fits_73 p D M = some R) : sm_WJ smT smCl smSa shC f112 2 73 [g0, g1, g2] [] D M R := by
  rcases gC_inv hp with rfl | rfl
  · have e : jC_fits_73 40 D M = (sm_run shC smSa cal112 c112 true (fun a D M => some (a, D, M)) (lf112_73 40 D) 53 (c112.drop 26) [g0, g1, g2] [] D M : Option (sm_S)) := rfl
    exact sm_blk (ρ := sm_S) (gd := (fun v => v = R)) (kx := 112) (i := 26) smVC rfl (by decide) ck112 (fun a D M v e1 e2 => by cases e1; exact e2.symm) (ll112_73 40 (by decide) D) rfl (e.symm.trans h) rfl
  · have e : jC_fits_73 50 D M = (sm_run shC smSa cal112 c112 true (fun a D M => some (a, D, M)) (lf112_73 50 D) 53 (c112.drop 26) [g0, g1, g2] [] D M : Option (sm_S)) := rfl
    exact sm_blk (ρ := sm_S) (gd := (fun v => v = R)) (kx := 112) (i := 26) smVC rfl (by decide) ck112 (fun a D M v e1 e2 => by cases e1; exact e2.symm) (ll112_73 50 (by decide) D) rfl (e.symm.trans h) rfl
set_option maxRecDepth 20000 in
set_option maxHeartbeats 4000000 in
theorem w112_108 (p : Nat) (hp : [p] ∈ gC) {s0 : Int32} {g0 g1 g2 : Value} {D : sm_D} {M : sm_M} {R : sm_S} (h : jC_fits_108 p s0 D M = some R) : sm_WJ smT smCl smSa shC f112 2 108 [g0, g1, g2] [.int s0] D M R := by
  rcases gC_inv hp with rfl | rfl
  · have e : jC_fits_108 40 s0 D M = (sm_run shC smSa cal112 c112 true (fun a D M => some (a, D, M)) sm_noleaf 53 (c112.drop 45) [g0, g1, g2] [.int s0] D M : Option (sm_S)) := rfl
    exact sm_blk (ρ := sm_S) (gd := (fun v => v = R)) (kx := 112) (i := 45) smVC rfl (by decide) ck112 (fun a D M v e1 e2 => by cases e1; exact e2.symm) (sm_noleaf_ok) rfl (e.symm.trans h) rfl
  · have e : jC_fits_108 50 s0 D M = (sm_run shC smSa cal112 c112 true (fun a D M => some (a, D, M)) sm_noleaf 53 (c112.drop 45) [g0, g1, g2] [.int s0] D M : Option (sm_S)) := rfl
    exact sm_blk (ρ := sm_S) (gd := (fun v => v = R)) (kx := 112) (i := 45) smVC rfl (by decide) ck112 (fun a D M v e1 e2 => by cases e1; exact e2.symm) (sm_noleaf_ok) rfl (e.symm.trans h) rfl
noncomputable def lf112_103 (p : Nat) (D : sm_D) : Nat → List Value → List Value → sm_D → sm_M → Option (sm_S) := fun pc ls st D' M =>
  if pc = 108 then (match ls, st with
    | [gl0, gl1, gl2], [.int bs0] => (jC_fits_108 p bs0 D' M)
    | _, _ => none)
  else none
theorem ll112_103 (p : Nat) (hp : [p] ∈ gC) (D : sm_D) {R : sm_S} : ∀ (pc : Nat) (ls st : List Value) (D' : sm_D) (M : sm_M) (v : sm_S), (lf112_103 p D) pc ls st D' M = some v → (fun v => v = R) v → sm_WJ smT smCl smSa shC f112 2 pc ls st D' M R := by
  intro pc ls st D' M v h hv
  unfold lf112_103 at h
  by_cases hp0 : pc = 108
  · subst hp0
    rw [if_pos (show (108 : Nat) = 108 from rfl)] at h
    split at h
    · skip
      have hv : v = R := hv
      subst hv
      exact w112_108 _ hp h
    · cases h
  · rw [if_neg hp0] at h
    cases h
set_option maxRecDepth 20000 in
set_option maxHeartbeats 4000000 in
theorem w112_103 (p : Nat) (hp : [p] ∈ gC) {g0 g1 g2 : Value} {D : sm_D} {M : sm_M} {R : sm_S} (h : jC_fits_103 p D M = some R) : sm_WJ smT smCl smSa shC f112 2 103 [g0, g1, g2] [] D M R := by
  rcases gC_inv hp with rfl | rfl
  · have e : jC_fits_103 40 D M = (sm_run shC smSa cal112 c112 true (fun a D M => some (a, D, M)) (lf112_103 40 D) 53 (c112.drop 42) [g0, g1, g2] [] D M : Option (sm_S)) := rfl
    exact sm_blk (ρ := sm_S) (gd := (fun v => v = R)) (kx := 112) (i := 42) smVC rfl (by decide) ck112 (fun a D M v e1 e2 => by cases e1; exact e2.symm) (ll112_103 40 (by decide) D) rfl (e.symm.trans h) rfl
  · have e : jC_fits_103 50 D M = (sm_run shC smSa cal112 c112 true (fun a D M => some (a, D, M)) (lf112_103 50 D) 53 (c112.drop 42) [g0, g1, g2] [] D M : Option (sm_S)) := rfl
    exact sm_blk (ρ := sm_S) (gd := (fun v => v = R)) (kx := 112) (i := 42) smVC rfl (by decide) ck112 (fun a D M v e1 e2 => by cases e1; exact e2.symm) (ll112_103 50 (by decide) D) rfl (e.symm.trans h) rfl
noncomputable def lf112_0 (p : Nat) (D : sm_D) : Nat → List Value → List Value → sm_D → sm_M → Option (sm_S) := fun pc ls st D' M =>
  if pc = 46 then (match ls, st with
    | [gl0, gl1, gl2], [] => (jC_fits_46 p D' M)
    | _, _ => none)
  else if pc = 47 then (match ls, st with
    | [gl0, gl1, gl2], [.int bs0] => (jC_fits_47 p bs0 D' M)
    | _, _ => none)
  else if pc = 62 then (match ls, st with
    | [gl0, gl1, gl2], [] => (jC_fits_62 p D' M)
    | _, _ => none)
  else if pc = 63 then (match ls, st with
    | [gl0, gl1, gl2], [.int bs0] => (jC_fits_63 p bs0 D' M)
    | _, _ => none)
  else if pc = 73 then (match ls, st with
    | [gl0, gl1, gl2], [] => (jC_fits_73 p D' M)
    | _, _ => none)
  else if pc = 78 then (match ls, st with
    | [gl0, gl1, gl2], [.int bs0] => (jC_fits_78 p bs0 D' M)
    | _, _ => none)
  else if pc = 103 then (match ls, st with
    | [gl0, gl1, gl2], [] => (jC_fits_103 p D' M)
    | _, _ => none)
  else if pc = 108 then (match ls, st with
    | [gl0, gl1, gl2], [.int bs0] => (jC_fits_108 p bs0 D' M)
    | _, _ => none)
  else none
theorem ll112_0 (p : Nat) (hp : [p] ∈ gC) (D : sm_D) {R : sm_S} : ∀ (pc : Nat) (ls st : List Value) (D' : sm_D) (M : sm_M) (v : sm_S), (lf112_0 p D) pc ls st D' M = some v → (fun v => v = R) v → sm_WJ smT smCl smSa shC f112 2 pc ls st D' M R := by
  intro pc ls st D' M v h hv
  unfold lf112_0 at h
  by_cases hp0 : pc = 46
  · subst hp0
    rw [if_pos (show (46 : Nat) = 46 from rfl)] at h
    split at h
    · skip
      have hv : v = R := hv
      subst hv
      exact w112_46 _ hp h
    · cases h
  · rw [if_neg hp0] at h
    by_cases hp0 : pc = 47
    · subst hp0
      rw [if_pos (show (47 : Nat) = 47 from rfl)] at h
      split at h
      · skip
        have hv : v = R := hv
        subst hv
        exact w112_47 _ hp h
      · cases h
    · rw [if_neg hp0] at h
      by_cases hp0 : pc = 62
      · subst hp0
        rw [if_pos (show (62 : Nat) = 62 from rfl)] at h
        split at h
        · skip
          have hv : v = R := hv
          subst hv
          exact w112_62 _ hp h
        · cases h
      · rw [if_neg hp0] at h
        by_cases hp0 : pc = 63
        · subst hp0
          rw [if_pos (show (63 : Nat) = 63 from rfl)] at h
          split at h
          · skip
            have hv : v = R := hv
            subst hv
            exact w112_63 _ hp h
          · cases h
        · rw [if_neg hp0] at h
          by_cases hp0 : pc = 73
          · subst hp0
            rw [if_pos (show (73 : Nat) = 73 from rfl)] at h
            split at h
            · skip
              have hv : v = R := hv
              subst hv
              exact w112_73 _ hp h
            · cases h
          · rw [if_neg hp0] at h
            by_cases hp0 : pc = 78
            · subst hp0
              rw [if_pos (show (78 : Nat) = 78 from rfl)] at h
              split at h
              · skip
                have hv : v = R := hv
                subst hv
                exact w112_78 _ hp h
              · cases h
            · rw [if_neg hp0] at h
              by_cases hp0 : pc = 103
              · subst hp0
                rw [if_pos (show (103 : Nat) = 103 from rfl)] at h
                split at h
                · skip
                  have hv : v = R := hv
                  subst hv
                  exact w112_103 _ hp h
                · cases h
              · rw [if_neg hp0] at h
                by_cases hp0 : pc = 108
                · subst hp0
                  rw [if_pos (show (108 : Nat) = 108 from rfl)] at h
                  split at h
                  · skip
                    have hv : v = R := hv
                    subst hv
                    exact w112_108 _ hp h
                  · cases h
                · rw [if_neg hp0] at h
                  cases h
set_option maxRecDepth 20000 in
set_option maxHeartbeats 4000000 in
theorem we112 (p : Nat) (hp : [p] ∈ gC) {l1 l2 : Int32} {D : sm_D} {M : sm_M} {R : sm_S} (h : jC_fits p l1 l2 D M = some R) : sm_WJ smT smCl smSa shC f112 2 0 [.ref p, .int l1, .int l2] [] D M R := by
  rcases gC_inv hp with rfl | rfl
  · have e : jC_fits 40 l1 l2 D M = (sm_run shC smSa cal112 c112 true (fun a D M => some (a, D, M)) (lf112_0 40 D) 53 (c112.drop 0) [.ref 40, .int l1, .int l2] [] D M : Option (sm_S)) := rfl
    exact sm_blk (ρ := sm_S) (gd := (fun v => v = R)) (kx := 112) (i := 0) smVC rfl (by decide) ck112 (fun a D M v e1 e2 => by cases e1; exact e2.symm) (ll112_0 40 (by decide) D) rfl (e.symm.trans h) rfl
  · have e : jC_fits 50 l1 l2 D M = (sm_run shC smSa cal112 c112 true (fun a D M => some (a, D, M)) (lf112_0 50 D) 53 (c112.drop 0) [.ref 50, .int l1, .int l2] [] D M : Option (sm_S)) := rfl
    exact sm_blk (ρ := sm_S) (gd := (fun v => v = R)) (kx := 112) (i := 0) smVC rfl (by decide) ck112 (fun a D M v e1 e2 => by cases e1; exact e2.symm) (ll112_0 50 (by decide) D) rfl (e.symm.trans h) rfl
theorem m112 {p : Nat} (hp : [p] ∈ gC) {l1 l2 : Int32} {D : sm_D} {M : sm_M} {R : sm_S} (h : jC_fits p l1 l2 D M = some R) : sm_MJ smT smCl smSa shC f112 2 [.ref p, .int l1, .int l2] D M R :=
  sm_met (by decide) (Nat.le_of_ble_eq_true rfl) (List.all_eq_true.mp rfl) (we112 p hp h)

-- jC_takes
noncomputable def cal111  : sm_Cal := fun x as D M =>
  if x = 112 then (match as with
    | [.ref q0, .int a1, .int a2] => (sm_ga [q0] gC (jC_fits q0 a1 a2 D M))
    | _ => none)
  else none
theorem ck111  : sm_CalOk smT smCl smP smSa shC 3 cal111 := by
  intro x g as D M R hx h
  unfold cal111 at h
  by_cases hx' : x = 112
  · subst hx'
    rw [if_pos (show (112 : Nat) = 112 from rfl)] at h
    cases (show smP[112]? = some f112 from rfl).symm.trans hx
    split at h
    · replace h := sm_ga_inv h
      obtain ⟨h1, h⟩ := h
      exact Or.inl ⟨2, by omega, m112  h1 h⟩
    · cases h
  · rw [if_neg hx'] at h
    cases h
set_option maxRecDepth 20000 in
set_option maxHeartbeats 4000000 in
theorem w111_10 (p : Nat) (hp : [p] ∈ gC) {g0 g1 g2 g3 g4 g5 : Value} {D : sm_D} {M : sm_M} {R : sm_S} (h : jC_takes_10 p D M = some R) : sm_WJ smT smCl smSa shC f111 3 10 [g0, g1, g2, g3, g4, g5] [] D M R := by
  rcases gC_inv hp with rfl | rfl
  · have e : jC_takes_10 40 D M = (sm_run shC smSa cal111 c111 true (fun a D M => some (a, D, M)) sm_noleaf 45 (c111.drop 5) [g0, g1, g2, g3, g4, g5] [] D M : Option (sm_S)) := rfl
    exact sm_blk (ρ := sm_S) (gd := (fun v => v = R)) (kx := 111) (i := 5) smVC rfl (by decide) ck111 (fun a D M v e1 e2 => by cases e1; exact e2.symm) (sm_noleaf_ok) rfl (e.symm.trans h) rfl
  · have e : jC_takes_10 50 D M = (sm_run shC smSa cal111 c111 true (fun a D M => some (a, D, M)) sm_noleaf 45 (c111.drop 5) [g0, g1, g2, g3, g4, g5] [] D M : Option (sm_S)) := rfl
    exact sm_blk (ρ := sm_S) (gd := (fun v => v = R)) (kx := 111) (i := 5) smVC rfl (by decide) ck111 (fun a D M v e1 e2 => by cases e1; exact e2.symm) (sm_noleaf_ok) rfl (e.symm.trans h) rfl
set_option maxRecDepth 20000 in
set_option maxHeartbeats 4000000 in
theorem w111_69 (p : Nat) (hp : [p] ∈ gC) {s0 : Int32} {g0 g1 g2 g3 g4 g5 : Value} {D : sm_D} {M : sm_M} {R : sm_S} (h : jC_takes_69 p s0 D M = some R) : sm_WJ smT smCl smSa shC f111 3 69 [g0, g1, g2, g3, g4, g5] [.int s0] D M R := by
  rcases gC_inv hp with rfl | rfl
  · have e : jC_takes_69 40 s0 D M = (sm_run shC smSa cal111 c111 true (fun a D M => some (a, D, M)) sm_noleaf 45 (c111.drop 39) [g0, g1, g2, g3, g4, g5] [.int s0] D M : Option (sm_S)) := rfl
    exact sm_blk (ρ := sm_S) (gd := (fun v => v = R)) (kx := 111) (i := 39) smVC rfl (by decide) ck111 (fun a D M v e1 e2 => by cases e1; exact e2.symm) (sm_noleaf_ok) rfl (e.symm.trans h) rfl
  · have e : jC_takes_69 50 s0 D M = (sm_run shC smSa cal111 c111 true (fun a D M => some (a, D, M)) sm_noleaf 45 (c111.drop 39) [g0, g1, g2, g3, g4, g5] [.int s0] D M : Option (sm_S)) := rfl
    exact sm_blk (ρ := sm_S) (gd := (fun v => v = R)) (kx := 111) (i := 39) smVC rfl (by decide) ck111 (fun a D M v e1 e2 => by cases e1; exact e2.symm) (sm_noleaf_ok) rfl (e.symm.trans h) rfl
noncomputable def lf111_68 (p : Nat) (D : sm_D) : Nat → List Value → List Value → sm_D → sm_M → Option (sm_S) := fun pc ls st D' M =>
  if pc = 69 then (match ls, st with
    | [gl0, gl1, gl2, gl3, gl4, gl5], [.int bs0] => (jC_takes_69 p bs0 D' M)
    | _, _ => none)
  else none
theorem ll111_68 (p : Nat) (hp : [p] ∈ gC) (D : sm_D) {R : sm_S} : ∀ (pc : Nat) (ls st : List Value) (D' : sm_D) (M : sm_M) (v : sm_S), (lf111_68 p D) pc ls st D' M = some v → (fun v => v = R) v → sm_WJ smT smCl smSa shC f111 3 pc ls st D' M R := by
  intro pc ls st D' M v h hv
  unfold lf111_68 at h
  by_cases hp0 : pc = 69
  · subst hp0
    rw [if_pos (show (69 : Nat) = 69 from rfl)] at h
    split at h
    · skip
      have hv : v = R := hv
      subst hv
      exact w111_69 _ hp h
    · cases h
  · rw [if_neg hp0] at h
    cases h
set_option maxRecDepth 20000 in
set_option maxHeartbeats 4000000 in
theorem w111_68 (p : Nat) (hp : [p] ∈ gC) {g0 g1 g2 g3 g4 g5 : Value} {D : sm_D} {M : sm_M} {R : sm_S} (h : jC_takes_68 p D M = some R) : sm_WJ smT smCl smSa shC f111 3 68 [g0, g1, g2, g3, g4, g5] [] D M R := by
  rcases gC_inv hp with rfl | rfl
  · have e : jC_takes_68 40 D M = (sm_run shC smSa cal111 c111 true (fun a D M => some (a, D, M)) (lf111_68 40 D) 45 (c111.drop 38) [g0, g1, g2, g3, g4, g5] [] D M : Option (sm_S)) := rfl
    exact sm_blk (ρ := sm_S) (gd := (fun v => v = R)) (kx := 111) (i := 38) smVC rfl (by decide) ck111 (fun a D M v e1 e2 => by cases e1; exact e2.symm) (ll111_68 40 (by decide) D) rfl (e.symm.trans h) rfl
  · have e : jC_takes_68 50 D M = (sm_run shC smSa cal111 c111 true (fun a D M => some (a, D, M)) (lf111_68 50 D) 45 (c111.drop 38) [g0, g1, g2, g3, g4, g5] [] D M : Option (sm_S)) := rfl
    exact sm_blk (ρ := sm_S) (gd := (fun v => v = R)) (kx := 111) (i := 38) smVC rfl (by decide) ck111 (fun a D M v e1 e2 => by cases e1; exact e2.symm) (ll111_68 50 (by decide) D) rfl (e.symm.trans h) rfl
noncomputable def lf111_0 (p : Nat) (D : sm_D) : Nat → List Value → List Value → sm_D → sm_M → Option (sm_S) := fun pc ls st D' M =>
  if pc = 10 then (match ls, st with
    | [gl0, gl1, gl2, gl3, gl4, gl5], [] => (jC_takes_10 p D' M)
    | _, _ => none)
  else if pc = 68 then (match ls, st with
    | [gl0, gl1, gl2, gl3, gl4, gl5], [] => (jC_takes_68 p D' M)
    | _, _ => none)
  else if pc = 69 then (match ls, st with
    | [gl0, gl1, gl2, gl3, gl4, gl5], [.int bs0] => (jC_takes_69 p bs0 D' M)
    | _, _ => none)
  else none
theorem ll111_0 (p : Nat) (hp : [p] ∈ gC) (D : sm_D) {R : sm_S} : ∀ (pc : Nat) (ls st : List Value) (D' : sm_D) (M : sm_M) (v : sm_S), (lf111_0 p D) pc ls st D' M = some v → (fun v => v = R) v → sm_WJ smT smCl smSa shC f111 3 pc ls st D' M R := by
  intro pc ls st D' M v h hv
  unfold lf111_0 at h
  by_cases hp0 : pc = 10
  · subst hp0
    rw [if_pos (show (10 : Nat) = 10 from rfl)] at h
    split at h
    · skip
      have hv : v = R := hv
      subst hv
      exact w111_10 _ hp h
    · cases h
  · rw [if_neg hp0] at h
    by_cases hp0 : pc = 68
    · subst hp0
      rw [if_pos (show (68 : Nat) = 68 from rfl)] at h
      split at h
      · skip
        have hv : v = R := hv
        subst hv
        exact w111_68 _ hp h
      · cases h
    · rw [if_neg hp0] at h
      by_cases hp0 : pc = 69
      · subst hp0
        rw [if_pos (show (69 : Nat) = 69 from rfl)] at h
        split at h
        · skip
          have hv : v = R := hv
          subst hv
          exact w111_69 _ hp h
        · cases h
      · rw [if_neg hp0] at h
        cases h
set_option maxRecDepth 20000 in
set_option maxHeartbeats 4000000 in
theorem we111 (p : Nat) (hp : [p] ∈ gC) {l1 l2 l3 l4 : Int32} {D : sm_D} {M : sm_M} {R : sm_S} (h : jC_takes p l1 l2 l3 l4 D M = some R) : sm_WJ smT smCl smSa shC f111 3 0 [.ref p, .int l1, .int l2, .int l3, .int l4, .retAddr 0] [] D M R := by
  rcases gC_inv hp with rfl | rfl
  · have e : jC_takes 40 l1 l2 l3 l4 D M = (sm_run shC smSa cal111 c111 true (fun a D M => some (a, D, M)) (lf111_0 40 D) 45 (c111.drop 0) [.ref 40, .int l1, .int l2, .int l3, .int l4, .retAddr 0] [] D M : Option (sm_S)) := rfl
    exact sm_blk (ρ := sm_S) (gd := (fun v => v = R)) (kx := 111) (i := 0) smVC rfl (by decide) ck111 (fun a D M v e1 e2 => by cases e1; exact e2.symm) (ll111_0 40 (by decide) D) rfl (e.symm.trans h) rfl
  · have e : jC_takes 50 l1 l2 l3 l4 D M = (sm_run shC smSa cal111 c111 true (fun a D M => some (a, D, M)) (lf111_0 50 D) 45 (c111.drop 0) [.ref 50, .int l1, .int l2, .int l3, .int l4, .retAddr 0] [] D M : Option (sm_S)) := rfl
    exact sm_blk (ρ := sm_S) (gd := (fun v => v = R)) (kx := 111) (i := 0) smVC rfl (by decide) ck111 (fun a D M v e1 e2 => by cases e1; exact e2.symm) (ll111_0 50 (by decide) D) rfl (e.symm.trans h) rfl
theorem m111 {p : Nat} (hp : [p] ∈ gC) {l1 l2 l3 l4 : Int32} {D : sm_D} {M : sm_M} {R : sm_S} (h : jC_takes p l1 l2 l3 l4 D M = some R) : sm_MJ smT smCl smSa shC f111 3 [.ref p, .int l1, .int l2, .int l3, .int l4] D M R :=
  sm_met (by decide) (Nat.le_of_ble_eq_true rfl) (List.all_eq_true.mp rfl) (we111 p hp h)

-- jC_put
noncomputable def cal113  : sm_Cal := fun x as D M =>
  if x = 104 then (match as with
    | [.ref q0, .int a1] => (sm_ga [q0] gC (jC_hasBlock q0 a1 D M))
    | _ => none)
  else if x = 156 then (match as with
    | [.ref 1, .int a1] => (jT_sizeOf a1 D M)
    | _ => none)
  else none
theorem ck113  : sm_CalOk smT smCl smP smSa shC 1 cal113 := by
  intro x g as D M R hx h
  unfold cal113 at h
  by_cases hx' : x = 104
  · subst hx'
    rw [if_pos (show (104 : Nat) = 104 from rfl)] at h
    cases (show smP[104]? = some f104 from rfl).symm.trans hx
    split at h
    · replace h := sm_ga_inv h
      obtain ⟨h1, h⟩ := h
      exact Or.inl ⟨0, by omega, m104  h1 h⟩
    · cases h
  · rw [if_neg hx'] at h
    by_cases hx' : x = 156
    · subst hx'
      rw [if_pos (show (156 : Nat) = 156 from rfl)] at h
      cases (show smP[156]? = some f156 from rfl).symm.trans hx
      split at h
      · skip
        exact Or.inl ⟨0, by omega, m156   h⟩
      · cases h
    · rw [if_neg hx'] at h
      cases h
set_option maxRecDepth 20000 in
set_option maxHeartbeats 4000000 in
theorem w113_21 (p : Nat) (hp : [p] ∈ gC) {g1 g2 g3 g4 g5 : Value} {D : sm_D} {M : sm_M} {R : sm_S} (h : jC_put_21 p D M = some R) : sm_WJ smT smCl smSa shC f113 1 21 [.ref p, g1, g2, g3, g4, g5] [] D M R := by
  rcases gC_inv hp with rfl | rfl
  · have e : jC_put_21 40 D M = (sm_run shC smSa cal113 c113 false (fun a D M => some (a, D, M)) sm_noleaf 102 (c113.drop 9) [.ref 40, g1, g2, g3, g4, g5] [] D M : Option (sm_S)) := rfl
    exact sm_blk (ρ := sm_S) (gd := (fun v => v = R)) (kx := 113) (i := 9) smVC rfl (by decide) ck113 (fun a D M v e1 e2 => by cases e1; exact e2.symm) (sm_noleaf_ok) rfl (e.symm.trans h) rfl
  · have e : jC_put_21 50 D M = (sm_run shC smSa cal113 c113 false (fun a D M => some (a, D, M)) sm_noleaf 102 (c113.drop 9) [.ref 50, g1, g2, g3, g4, g5] [] D M : Option (sm_S)) := rfl
    exact sm_blk (ρ := sm_S) (gd := (fun v => v = R)) (kx := 113) (i := 9) smVC rfl (by decide) ck113 (fun a D M v e1 e2 => by cases e1; exact e2.symm) (sm_noleaf_ok) rfl (e.symm.trans h) rfl
set_option maxRecDepth 20000 in
set_option maxHeartbeats 4000000 in
theorem w113_151 (p : Nat) (hp : [p] ∈ gC) {s1 s2 : Int32} {g1 g2 g3 g4 g5 : Value} {D : sm_D} {M : sm_M} {R : sm_S} (h : jC_put_151 p s1 s2 D M = some R) : sm_WJ smT smCl smSa shC f113 1 151 [.ref p, g1, g2, g3, g4, g5] [.int s2, .int s1, .ref (p + 5)] D M R := by
  rcases gC_inv hp with rfl | rfl
  · have e : jC_put_151 40 s1 s2 D M = (sm_run shC smSa cal113 c113 false (fun a D M => some (a, D, M)) sm_noleaf 102 (c113.drop 80) [.ref 40, g1, g2, g3, g4, g5] [.int s2, .int s1, .ref (40 + 5)] D M : Option (sm_S)) := rfl
    exact sm_blk (ρ := sm_S) (gd := (fun v => v = R)) (kx := 113) (i := 80) smVC rfl (by decide) ck113 (fun a D M v e1 e2 => by cases e1; exact e2.symm) (sm_noleaf_ok) rfl (e.symm.trans h) rfl
  · have e : jC_put_151 50 s1 s2 D M = (sm_run shC smSa cal113 c113 false (fun a D M => some (a, D, M)) sm_noleaf 102 (c113.drop 80) [.ref 50, g1, g2, g3, g4, g5] [.int s2, .int s1, .ref (50 + 5)] D M : Option (sm_S)) := rfl
    exact sm_blk (ρ := sm_S) (gd := (fun v => v = R)) (kx := 113) (i := 80) smVC rfl (by decide) ck113 (fun a D M v e1 e2 => by cases e1; exact e2.symm) (sm_noleaf_ok) rfl (e.symm.trans h) rfl
noncomputable def lf113_115 (p : Nat) (D : sm_D) : Nat → List Value → List Value → sm_D → sm_M → Option (sm_S) := fun pc ls st D' M =>
  if pc = 151 then (match ls, st with
    | [.ref rl0, gl1, gl2, gl3, gl4, gl5], [.int bs2, .int bs1, .ref rs0] => (sm_eqp rl0 p (sm_eqp rs0 (p + 5) (jC_put_151 p bs1 bs2 D' M)))
    | _, _ => none)
  else none
theorem ll113_115 (p : Nat) (hp : [p] ∈ gC) (D : sm_D) {R : sm_S} : ∀ (pc : Nat) (ls st : List Value) (D' : sm_D) (M : sm_M) (v : sm_S), (lf113_115 p D) pc ls st D' M = some v → (fun v => v = R) v → sm_WJ smT smCl smSa shC f113 1 pc ls st D' M R := by
  intro pc ls st D' M v h hv
  unfold lf113_115 at h
  by_cases hp0 : pc = 151
  · subst hp0
    rw [if_pos (show (151 : Nat) = 151 from rfl)] at h
    split at h
    · skip
      replace h := sm_eqp_inv h
      obtain ⟨he, h⟩ := h
      subst he
      replace h := sm_eqp_inv h
      obtain ⟨he, h⟩ := h
      subst he
      have hv : v = R := hv
      subst hv
      exact w113_151 _ hp h
    · cases h
  · rw [if_neg hp0] at h
    cases h
set_option maxRecDepth 20000 in
set_option maxHeartbeats 4000000 in
theorem w113_115 (p : Nat) (hp : [p] ∈ gC) {l1 l4 s1 s2 : Int32} {g2 g3 g5 : Value} {D : sm_D} {M : sm_M} {R : sm_S} (h : jC_put_115 p l1 l4 s1 s2 D M = some R) : sm_WJ smT smCl smSa shC f113 1 115 [.ref p, .int l1, g2, g3, .int l4, g5] [.int s2, .int s1, .ref (p + 4)] D M R := by
  rcases gC_inv hp with rfl | rfl
  · have e : jC_put_115 40 l1 l4 s1 s2 D M = (sm_run shC smSa cal113 c113 false (fun a D M => some (a, D, M)) (lf113_115 40 D) 102 (c113.drop 62) [.ref 40, .int l1, g2, g3, .int l4, g5] [.int s2, .int s1, .ref (40 + 4)] D M : Option (sm_S)) := rfl
    exact sm_blk (ρ := sm_S) (gd := (fun v => v = R)) (kx := 113) (i := 62) smVC rfl (by decide) ck113 (fun a D M v e1 e2 => by cases e1; exact e2.symm) (ll113_115 40 (by decide) D) rfl (e.symm.trans h) rfl
  · have e : jC_put_115 50 l1 l4 s1 s2 D M = (sm_run shC smSa cal113 c113 false (fun a D M => some (a, D, M)) (lf113_115 50 D) 102 (c113.drop 62) [.ref 50, .int l1, g2, g3, .int l4, g5] [.int s2, .int s1, .ref (50 + 4)] D M : Option (sm_S)) := rfl
    exact sm_blk (ρ := sm_S) (gd := (fun v => v = R)) (kx := 113) (i := 62) smVC rfl (by decide) ck113 (fun a D M v e1 e2 => by cases e1; exact e2.symm) (ll113_115 50 (by decide) D) rfl (e.symm.trans h) rfl
noncomputable def lf113_89 (p : Nat) (D : sm_D) : Nat → List Value → List Value → sm_D → sm_M → Option (sm_S) := fun pc ls st D' M =>
  if pc = 115 then (match ls, st with
    | [.ref rl0, .int bl1, gl2, gl3, .int bl4, gl5], [.int bs2, .int bs1, .ref rs0] => (sm_eqp rl0 p (sm_eqp rs0 (p + 4) (jC_put_115 p bl1 bl4 bs1 bs2 D' M)))
    | _, _ => none)
  else none
theorem ll113_89 (p : Nat) (hp : [p] ∈ gC) (D : sm_D) {R : sm_S} : ∀ (pc : Nat) (ls st : List Value) (D' : sm_D) (M : sm_M) (v : sm_S), (lf113_89 p D) pc ls st D' M = some v → (fun v => v = R) v → sm_WJ smT smCl smSa shC f113 1 pc ls st D' M R := by
  intro pc ls st D' M v h hv
  unfold lf113_89 at h
  by_cases hp0 : pc = 115
  · subst hp0
    rw [if_pos (show (115 : Nat) = 115 from rfl)] at h
    split at h
    · skip
      replace h := sm_eqp_inv h
      obtain ⟨he, h⟩ := h
      subst he
      replace h := sm_eqp_inv h
      obtain ⟨he, h⟩ := h
      subst he
      have hv : v = R := hv
      subst hv
      exact w113_115 _ hp h
    · cases h
  · rw [if_neg hp0] at h
    cases h
set_option maxRecDepth 20000 in
set_option maxHeartbeats 4000000 in
theorem w113_89 (p : Nat) (hp : [p] ∈ gC) {l1 l4 l5 s1 s2 : Int32} {g2 g3 : Value} {D : sm_D} {M : sm_M} {R : sm_S} (h : jC_put_89 p l1 l4 l5 s1 s2 D M = some R) : sm_WJ smT smCl smSa shC f113 1 89 [.ref p, .int l1, g2, g3, .int l4, .int l5] [.int s2, .int s1, .ref (p + 3)] D M R := by
  rcases gC_inv hp with rfl | rfl
  · have e : jC_put_89 40 l1 l4 l5 s1 s2 D M = (sm_run shC smSa cal113 c113 false (fun a D M => some (a, D, M)) (lf113_89 40 D) 102 (c113.drop 48) [.ref 40, .int l1, g2, g3, .int l4, .int l5] [.int s2, .int s1, .ref (40 + 3)] D M : Option (sm_S)) := rfl
    exact sm_blk (ρ := sm_S) (gd := (fun v => v = R)) (kx := 113) (i := 48) smVC rfl (by decide) ck113 (fun a D M v e1 e2 => by cases e1; exact e2.symm) (ll113_89 40 (by decide) D) rfl (e.symm.trans h) rfl
  · have e : jC_put_89 50 l1 l4 l5 s1 s2 D M = (sm_run shC smSa cal113 c113 false (fun a D M => some (a, D, M)) (lf113_89 50 D) 102 (c113.drop 48) [.ref 50, .int l1, g2, g3, .int l4, .int l5] [.int s2, .int s1, .ref (50 + 3)] D M : Option (sm_S)) := rfl
    exact sm_blk (ρ := sm_S) (gd := (fun v => v = R)) (kx := 113) (i := 48) smVC rfl (by decide) ck113 (fun a D M v e1 e2 => by cases e1; exact e2.symm) (ll113_89 50 (by decide) D) rfl (e.symm.trans h) rfl
noncomputable def lf113_64 (p : Nat) (D : sm_D) : Nat → List Value → List Value → sm_D → sm_M → Option (sm_S) := fun pc ls st D' M =>
  if pc = 89 then (match ls, st with
    | [.ref rl0, .int bl1, gl2, gl3, .int bl4, .int bl5], [.int bs2, .int bs1, .ref rs0] => (sm_eqp rl0 p (sm_eqp rs0 (p + 3) (jC_put_89 p bl1 bl4 bl5 bs1 bs2 D' M)))
    | _, _ => none)
  else none
theorem ll113_64 (p : Nat) (hp : [p] ∈ gC) (D : sm_D) {R : sm_S} : ∀ (pc : Nat) (ls st : List Value) (D' : sm_D) (M : sm_M) (v : sm_S), (lf113_64 p D) pc ls st D' M = some v → (fun v => v = R) v → sm_WJ smT smCl smSa shC f113 1 pc ls st D' M R := by
  intro pc ls st D' M v h hv
  unfold lf113_64 at h
  by_cases hp0 : pc = 89
  · subst hp0
    rw [if_pos (show (89 : Nat) = 89 from rfl)] at h
    split at h
    · skip
      replace h := sm_eqp_inv h
      obtain ⟨he, h⟩ := h
      subst he
      replace h := sm_eqp_inv h
      obtain ⟨he, h⟩ := h
      subst he
      have hv : v = R := hv
      subst hv
      exact w113_89 _ hp h
    · cases h
  · rw [if_neg hp0] at h
    cases h
set_option maxRecDepth 20000 in
set_option maxHeartbeats 4000000 in
theorem w113_64 (p : Nat) (hp : [p] ∈ gC) {l1 l3 l4 l5 s1 s2 : Int32} {g2 : Value} {D : sm_D} {M : sm_M} {R : sm_S} (h : jC_put_64 p l1 l3 l4 l5 s1 s2 D M = some R) : sm_WJ smT smCl smSa shC f113 1 64 [.ref p, .int l1, g2, .int l3, .int l4, .int l5] [.int s2, .int s1, .ref (p + 2)] D M R := by
  rcases gC_inv hp with rfl | rfl
  · have e : jC_put_64 40 l1 l3 l4 l5 s1 s2 D M = (sm_run shC smSa cal113 c113 false (fun a D M => some (a, D, M)) (lf113_64 40 D) 102 (c113.drop 34) [.ref 40, .int l1, g2, .int l3, .int l4, .int l5] [.int s2, .int s1, .ref (40 + 2)] D M : Option (sm_S)) := rfl
    exact sm_blk (ρ := sm_S) (gd := (fun v => v = R)) (kx := 113) (i := 34) smVC rfl (by decide) ck113 (fun a D M v e1 e2 => by cases e1; exact e2.symm) (ll113_64 40 (by decide) D) rfl (e.symm.trans h) rfl
  · have e : jC_put_64 50 l1 l3 l4 l5 s1 s2 D M = (sm_run shC smSa cal113 c113 false (fun a D M => some (a, D, M)) (lf113_64 50 D) 102 (c113.drop 34) [.ref 50, .int l1, g2, .int l3, .int l4, .int l5] [.int s2, .int s1, .ref (50 + 2)] D M : Option (sm_S)) := rfl
    exact sm_blk (ρ := sm_S) (gd := (fun v => v = R)) (kx := 113) (i := 34) smVC rfl (by decide) ck113 (fun a D M v e1 e2 => by cases e1; exact e2.symm) (ll113_64 50 (by decide) D) rfl (e.symm.trans h) rfl
noncomputable def lf113_0 (p : Nat) (D : sm_D) : Nat → List Value → List Value → sm_D → sm_M → Option (sm_S) := fun pc ls st D' M =>
  if pc = 21 then (match ls, st with
    | [.ref rl0, gl1, gl2, gl3, gl4, gl5], [] => (sm_eqp rl0 p (jC_put_21 p D' M))
    | _, _ => none)
  else if pc = 64 then (match ls, st with
    | [.ref rl0, .int bl1, gl2, .int bl3, .int bl4, .int bl5], [.int bs2, .int bs1, .ref rs0] => (sm_eqp rl0 p (sm_eqp rs0 (p + 2) (jC_put_64 p bl1 bl3 bl4 bl5 bs1 bs2 D' M)))
    | _, _ => none)
  else none
theorem ll113_0 (p : Nat) (hp : [p] ∈ gC) (D : sm_D) {R : sm_S} : ∀ (pc : Nat) (ls st : List Value) (D' : sm_D) (M : sm_M) (v : sm_S), (lf113_0 p D) pc ls st D' M = some v → (fun v => v = R) v → sm_WJ smT smCl smSa shC f113 1 pc ls st D' M R := by
  intro pc ls st D' M v h hv
  unfold lf113_0 at h
  by_cases hp0 : pc = 21
  · subst hp0
    rw [if_pos (show (21 : Nat) = 21 from rfl)] at h
    split at h
    · skip
      replace h := sm_eqp_inv h
      obtain ⟨he, h⟩ := h
      subst he
      have hv : v = R := hv
      subst hv
      exact w113_21 _ hp h
    · cases h
  · rw [if_neg hp0] at h
    by_cases hp0 : pc = 64
    · subst hp0
      rw [if_pos (show (64 : Nat) = 64 from rfl)] at h
      split at h
      · skip
        replace h := sm_eqp_inv h
        obtain ⟨he, h⟩ := h
        subst he
        replace h := sm_eqp_inv h
        obtain ⟨he, h⟩ := h
        subst he
        have hv : v = R := hv
        subst hv
        exact w113_64 _ hp h
      · cases h
    · rw [if_neg hp0] at h
      cases h
set_option maxRecDepth 20000 in
set_option maxHeartbeats 4000000 in
theorem we113 (p : Nat) (hp : [p] ∈ gC) {l1 l2 l3 l4 : Int32} {D : sm_D} {M : sm_M} {R : sm_S} (h : jC_put p l1 l2 l3 l4 D M = some R) : sm_WJ smT smCl smSa shC f113 1 0 [.ref p, .int l1, .int l2, .int l3, .int l4, .retAddr 0] [] D M R := by
  rcases gC_inv hp with rfl | rfl
  · have e : jC_put 40 l1 l2 l3 l4 D M = (sm_run shC smSa cal113 c113 false (fun a D M => some (a, D, M)) (lf113_0 40 D) 102 (c113.drop 0) [.ref 40, .int l1, .int l2, .int l3, .int l4, .retAddr 0] [] D M : Option (sm_S)) := rfl
    exact sm_blk (ρ := sm_S) (gd := (fun v => v = R)) (kx := 113) (i := 0) smVC rfl (by decide) ck113 (fun a D M v e1 e2 => by cases e1; exact e2.symm) (ll113_0 40 (by decide) D) rfl (e.symm.trans h) rfl
  · have e : jC_put 50 l1 l2 l3 l4 D M = (sm_run shC smSa cal113 c113 false (fun a D M => some (a, D, M)) (lf113_0 50 D) 102 (c113.drop 0) [.ref 50, .int l1, .int l2, .int l3, .int l4, .retAddr 0] [] D M : Option (sm_S)) := rfl
    exact sm_blk (ρ := sm_S) (gd := (fun v => v = R)) (kx := 113) (i := 0) smVC rfl (by decide) ck113 (fun a D M v e1 e2 => by cases e1; exact e2.symm) (ll113_0 50 (by decide) D) rfl (e.symm.trans h) rfl
theorem m113 {p : Nat} (hp : [p] ∈ gC) {l1 l2 l3 l4 : Int32} {D : sm_D} {M : sm_M} {R : sm_S} (h : jC_put p l1 l2 l3 l4 D M = some R) : sm_MJ smT smCl smSa shC f113 1 [.ref p, .int l1, .int l2, .int l3, .int l4] D M R :=
  sm_met (by decide) (Nat.le_of_ble_eq_true rfl) (List.all_eq_true.mp rfl) (we113 p hp h)

-- jA_add
noncomputable def cal7  : sm_Cal := fun x as D M =>
  if x = 111 then (match as with
    | [.ref q0, .int a1, .int a2, .int a3, .int a4] => (sm_ga [q0] gC (jC_takes q0 a1 a2 a3 a4 D M))
    | _ => none)
  else if x = 113 then (match as with
    | [.ref q0, .int a1, .int a2, .int a3, .int a4] => (sm_ga [q0] gC (jC_put q0 a1 a2 a3 a4 D M))
    | _ => none)
  else if x = 138 then (match as, D with
    | [.ref 33, .ref q1], [e0, e1, e2, e3, e4] => (sm_ga [q1] gC (jM_begin q1 e0 e1 e2 e3 e4 M))
    | _, _ => none)
  else none
theorem ck7  : sm_CalOk smT smCl smP smSa shC 4 cal7 := by
  intro x g as D M R hx h
  unfold cal7 at h
  by_cases hx' : x = 111
  · subst hx'
    rw [if_pos (show (111 : Nat) = 111 from rfl)] at h
    cases (show smP[111]? = some f111 from rfl).symm.trans hx
    split at h
    · replace h := sm_ga_inv h
      obtain ⟨h1, h⟩ := h
      exact Or.inl ⟨3, by omega, m111  h1 h⟩
    · cases h
  · rw [if_neg hx'] at h
    by_cases hx' : x = 113
    · subst hx'
      rw [if_pos (show (113 : Nat) = 113 from rfl)] at h
      cases (show smP[113]? = some f113 from rfl).symm.trans hx
      split at h
      · replace h := sm_ga_inv h
        obtain ⟨h1, h⟩ := h
        exact Or.inl ⟨1, by omega, m113  h1 h⟩
      · cases h
    · rw [if_neg hx'] at h
      by_cases hx' : x = 138
      · subst hx'
        rw [if_pos (show (138 : Nat) = 138 from rfl)] at h
        cases (show smP[138]? = some f138 from rfl).symm.trans hx
        split at h
        · replace h := sm_ga_inv h
          obtain ⟨h1, h⟩ := h
          exact Or.inl ⟨1, by omega, m138  h1 h⟩
        · cases h
      · rw [if_neg hx'] at h
        cases h
set_option maxRecDepth 20000 in
set_option maxHeartbeats 4000000 in
theorem w7_33 (d0 d1 d2 d3 d4 : Nat) (hd0 : [d0] ∈ gC) {g0 g1 g2 g3 g4 : Value} {M : sm_M} {R : sm_S} (h : jA_add_33 d0 d1 d2 d3 d4 M = some R) : sm_WJ smT smCl smSa shC f7 4 33 [g0, g1, g2, g3, g4] [] [d0, d1, d2, d3, d4] M R := by
  rcases gC_inv hd0 with rfl | rfl
  · have e : jA_add_33 40 d1 d2 d3 d4 M = (sm_run shC smSa cal7 c7 false (fun a D M => some (a, D, M)) sm_noleaf 46 (c7.drop 13) [g0, g1, g2, g3, g4] [] [40, d1, d2, d3, d4] M : Option (sm_S)) := rfl
    exact sm_blk (ρ := sm_S) (gd := (fun v => v = R)) (kx := 7) (i := 13) smVC rfl (by decide) ck7 (fun a D M v e1 e2 => by cases e1; exact e2.symm) (sm_noleaf_ok) rfl (e.symm.trans h) rfl
  · have e : jA_add_33 50 d1 d2 d3 d4 M = (sm_run shC smSa cal7 c7 false (fun a D M => some (a, D, M)) sm_noleaf 46 (c7.drop 13) [g0, g1, g2, g3, g4] [] [50, d1, d2, d3, d4] M : Option (sm_S)) := rfl
    exact sm_blk (ρ := sm_S) (gd := (fun v => v = R)) (kx := 7) (i := 13) smVC rfl (by decide) ck7 (fun a D M v e1 e2 => by cases e1; exact e2.symm) (sm_noleaf_ok) rfl (e.symm.trans h) rfl
noncomputable def lf7_0 (d0 d1 d2 d3 d4 : Nat) : Nat → List Value → List Value → sm_D → sm_M → Option (sm_S) := fun pc ls st D' M =>
  if pc = 33 then (match ls, st with
    | [gl0, gl1, gl2, gl3, gl4], [] => (sm_dq D' [d0, d1, d2, d3, d4] (jA_add_33 d0 d1 d2 d3 d4 M))
    | _, _ => none)
  else none
theorem ll7_0 (d0 d1 d2 d3 d4 : Nat) (hd0 : [d0] ∈ gC) {R : sm_S} : ∀ (pc : Nat) (ls st : List Value) (D' : sm_D) (M : sm_M) (v : sm_S), (lf7_0 d0 d1 d2 d3 d4) pc ls st D' M = some v → (fun v => v = R) v → sm_WJ smT smCl smSa shC f7 4 pc ls st D' M R := by
  intro pc ls st D' M v h hv
  unfold lf7_0 at h
  by_cases hp0 : pc = 33
  · subst hp0
    rw [if_pos (show (33 : Nat) = 33 from rfl)] at h
    split at h
    · skip
      replace h := sm_dq_inv h
      obtain ⟨he, h⟩ := h
      subst he
      have hv : v = R := hv
      subst hv
      exact w7_33 _ _ _ _ _ hd0 h
    · cases h
  · rw [if_neg hp0] at h
    cases h
set_option maxRecDepth 20000 in
set_option maxHeartbeats 4000000 in
theorem we7 (d0 d1 d2 d3 d4 : Nat) (hd0 : [d0] ∈ gC) {l1 l2 l3 l4 : Int32} {M : sm_M} {R : sm_S} (h : jA_add d0 d1 d2 d3 d4 l1 l2 l3 l4 M = some R) : sm_WJ smT smCl smSa shC f7 4 0 [.ref 60, .int l1, .int l2, .int l3, .int l4] [] [d0, d1, d2, d3, d4] M R := by
  rcases gC_inv hd0 with rfl | rfl
  · have e : jA_add 40 d1 d2 d3 d4 l1 l2 l3 l4 M = (sm_run shC smSa cal7 c7 false (fun a D M => some (a, D, M)) (lf7_0 40 d1 d2 d3 d4) 46 (c7.drop 0) [.ref 60, .int l1, .int l2, .int l3, .int l4] [] [40, d1, d2, d3, d4] M : Option (sm_S)) := rfl
    exact sm_blk (ρ := sm_S) (gd := (fun v => v = R)) (kx := 7) (i := 0) smVC rfl (by decide) ck7 (fun a D M v e1 e2 => by cases e1; exact e2.symm) (ll7_0 40 d1 d2 d3 d4 (by decide)) rfl (e.symm.trans h) rfl
  · have e : jA_add 50 d1 d2 d3 d4 l1 l2 l3 l4 M = (sm_run shC smSa cal7 c7 false (fun a D M => some (a, D, M)) (lf7_0 50 d1 d2 d3 d4) 46 (c7.drop 0) [.ref 60, .int l1, .int l2, .int l3, .int l4] [] [50, d1, d2, d3, d4] M : Option (sm_S)) := rfl
    exact sm_blk (ρ := sm_S) (gd := (fun v => v = R)) (kx := 7) (i := 0) smVC rfl (by decide) ck7 (fun a D M v e1 e2 => by cases e1; exact e2.symm) (ll7_0 50 d1 d2 d3 d4 (by decide)) rfl (e.symm.trans h) rfl
theorem m7 {d0 d1 d2 d3 d4 : Nat} (hd0 : [d0] ∈ gC) {l1 l2 l3 l4 : Int32} {M : sm_M} {R : sm_S} (h : jA_add d0 d1 d2 d3 d4 l1 l2 l3 l4 M = some R) : sm_MJ smT smCl smSa shC f7 4 [.ref 60, .int l1, .int l2, .int l3, .int l4] [d0, d1, d2, d3, d4] M R :=
  sm_met (by decide) (Nat.le_of_ble_eq_true rfl) (List.all_eq_true.mp rfl) (we7 d0 d1 d2 d3 d4 hd0 h)

-- jC_askedType
noncomputable def cal107  : sm_Cal := fun x as D M =>
  if x = 104 then (match as with
    | [.ref q0, .int a1] => (sm_ga [q0] gC (jC_hasBlock q0 a1 D M))
    | _ => none)
  else none
theorem ck107  : sm_CalOk smT smCl smP smSa shC 1 cal107 := by
  intro x g as D M R hx h
  unfold cal107 at h
  by_cases hx' : x = 104
  · subst hx'
    rw [if_pos (show (104 : Nat) = 104 from rfl)] at h
    cases (show smP[104]? = some f104 from rfl).symm.trans hx
    split at h
    · replace h := sm_ga_inv h
      obtain ⟨h1, h⟩ := h
      exact Or.inl ⟨0, by omega, m104  h1 h⟩
    · cases h
  · rw [if_neg hx'] at h
    cases h
set_option maxRecDepth 20000 in
set_option maxHeartbeats 4000000 in
theorem w107_44 (p : Nat) (hp : [p] ∈ gC) {s0 : Int32} {g0 g1 g2 g3 : Value} {D : sm_D} {M : sm_M} {R : sm_S} (h : jC_askedType_44 p s0 D M = some R) : sm_WJ smT smCl smSa shC f107 1 44 [g0, g1, g2, g3] [.int s0] D M R := by
  rcases gC_inv hp with rfl | rfl
  · have e : jC_askedType_44 40 s0 D M = (sm_run shC smSa cal107 c107 false (fun a D M => some (a, D, M)) sm_noleaf 34 (c107.drop 28) [g0, g1, g2, g3] [.int s0] D M : Option (sm_S)) := rfl
    exact sm_blk (ρ := sm_S) (gd := (fun v => v = R)) (kx := 107) (i := 28) smVC rfl (by decide) ck107 (fun a D M v e1 e2 => by cases e1; exact e2.symm) (sm_noleaf_ok) rfl (e.symm.trans h) rfl
  · have e : jC_askedType_44 50 s0 D M = (sm_run shC smSa cal107 c107 false (fun a D M => some (a, D, M)) sm_noleaf 34 (c107.drop 28) [g0, g1, g2, g3] [.int s0] D M : Option (sm_S)) := rfl
    exact sm_blk (ρ := sm_S) (gd := (fun v => v = R)) (kx := 107) (i := 28) smVC rfl (by decide) ck107 (fun a D M v e1 e2 => by cases e1; exact e2.symm) (sm_noleaf_ok) rfl (e.symm.trans h) rfl
noncomputable def lf107_23 (p : Nat) (D : sm_D) : Nat → List Value → List Value → sm_D → sm_M → Option (sm_S) := fun pc ls st D' M =>
  if pc = 44 then (match ls, st with
    | [gl0, gl1, gl2, gl3], [.int bs0] => (jC_askedType_44 p bs0 D' M)
    | _, _ => none)
  else none
theorem ll107_23 (p : Nat) (hp : [p] ∈ gC) (D : sm_D) {R : sm_S} : ∀ (pc : Nat) (ls st : List Value) (D' : sm_D) (M : sm_M) (v : sm_S), (lf107_23 p D) pc ls st D' M = some v → (fun v => v = R) v → sm_WJ smT smCl smSa shC f107 1 pc ls st D' M R := by
  intro pc ls st D' M v h hv
  unfold lf107_23 at h
  by_cases hp0 : pc = 44
  · subst hp0
    rw [if_pos (show (44 : Nat) = 44 from rfl)] at h
    split at h
    · skip
      have hv : v = R := hv
      subst hv
      exact w107_44 _ hp h
    · cases h
  · rw [if_neg hp0] at h
    cases h
set_option maxRecDepth 20000 in
set_option maxHeartbeats 4000000 in
theorem w107_23 (p : Nat) (hp : [p] ∈ gC) {l1 l2 s0 : Int32} {g3 : Value} {D : sm_D} {M : sm_M} {R : sm_S} (h : jC_askedType_23 p l1 l2 s0 D M = some R) : sm_WJ smT smCl smSa shC f107 1 23 [.ref p, .int l1, .int l2, g3] [.int s0] D M R := by
  rcases gC_inv hp with rfl | rfl
  · have e : jC_askedType_23 40 l1 l2 s0 D M = (sm_run shC smSa cal107 c107 false (fun a D M => some (a, D, M)) (lf107_23 40 D) 34 (c107.drop 13) [.ref 40, .int l1, .int l2, g3] [.int s0] D M : Option (sm_S)) := rfl
    exact sm_blk (ρ := sm_S) (gd := (fun v => v = R)) (kx := 107) (i := 13) smVC rfl (by decide) ck107 (fun a D M v e1 e2 => by cases e1; exact e2.symm) (ll107_23 40 (by decide) D) rfl (e.symm.trans h) rfl
  · have e : jC_askedType_23 50 l1 l2 s0 D M = (sm_run shC smSa cal107 c107 false (fun a D M => some (a, D, M)) (lf107_23 50 D) 34 (c107.drop 13) [.ref 50, .int l1, .int l2, g3] [.int s0] D M : Option (sm_S)) := rfl
    exact sm_blk (ρ := sm_S) (gd := (fun v => v = R)) (kx := 107) (i := 13) smVC rfl (by decide) ck107 (fun a D M v e1 e2 => by cases e1; exact e2.symm) (ll107_23 50 (by decide) D) rfl (e.symm.trans h) rfl
noncomputable def lf107_22 (p : Nat) (D : sm_D) : Nat → List Value → List Value → sm_D → sm_M → Option (sm_S) := fun pc ls st D' M =>
  if pc = 23 then (match ls, st with
    | [.ref rl0, .int bl1, .int bl2, gl3], [.int bs0] => (sm_eqp rl0 p (jC_askedType_23 p bl1 bl2 bs0 D' M))
    | _, _ => none)
  else none
theorem ll107_22 (p : Nat) (hp : [p] ∈ gC) (D : sm_D) {R : sm_S} : ∀ (pc : Nat) (ls st : List Value) (D' : sm_D) (M : sm_M) (v : sm_S), (lf107_22 p D) pc ls st D' M = some v → (fun v => v = R) v → sm_WJ smT smCl smSa shC f107 1 pc ls st D' M R := by
  intro pc ls st D' M v h hv
  unfold lf107_22 at h
  by_cases hp0 : pc = 23
  · subst hp0
    rw [if_pos (show (23 : Nat) = 23 from rfl)] at h
    split at h
    · skip
      replace h := sm_eqp_inv h
      obtain ⟨he, h⟩ := h
      subst he
      have hv : v = R := hv
      subst hv
      exact w107_23 _ hp h
    · cases h
  · rw [if_neg hp0] at h
    cases h
set_option maxRecDepth 20000 in
set_option maxHeartbeats 4000000 in
theorem w107_22 (p : Nat) (hp : [p] ∈ gC) {l1 l2 : Int32} {g3 : Value} {D : sm_D} {M : sm_M} {R : sm_S} (h : jC_askedType_22 p l1 l2 D M = some R) : sm_WJ smT smCl smSa shC f107 1 22 [.ref p, .int l1, .int l2, g3] [] D M R := by
  rcases gC_inv hp with rfl | rfl
  · have e : jC_askedType_22 40 l1 l2 D M = (sm_run shC smSa cal107 c107 false (fun a D M => some (a, D, M)) (lf107_22 40 D) 34 (c107.drop 12) [.ref 40, .int l1, .int l2, g3] [] D M : Option (sm_S)) := rfl
    exact sm_blk (ρ := sm_S) (gd := (fun v => v = R)) (kx := 107) (i := 12) smVC rfl (by decide) ck107 (fun a D M v e1 e2 => by cases e1; exact e2.symm) (ll107_22 40 (by decide) D) rfl (e.symm.trans h) rfl
  · have e : jC_askedType_22 50 l1 l2 D M = (sm_run shC smSa cal107 c107 false (fun a D M => some (a, D, M)) (lf107_22 50 D) 34 (c107.drop 12) [.ref 50, .int l1, .int l2, g3] [] D M : Option (sm_S)) := rfl
    exact sm_blk (ρ := sm_S) (gd := (fun v => v = R)) (kx := 107) (i := 12) smVC rfl (by decide) ck107 (fun a D M v e1 e2 => by cases e1; exact e2.symm) (ll107_22 50 (by decide) D) rfl (e.symm.trans h) rfl
noncomputable def lf107_0 (p : Nat) (D : sm_D) : Nat → List Value → List Value → sm_D → sm_M → Option (sm_S) := fun pc ls st D' M =>
  if pc = 22 then (match ls, st with
    | [.ref rl0, .int bl1, .int bl2, gl3], [] => (sm_eqp rl0 p (jC_askedType_22 p bl1 bl2 D' M))
    | _, _ => none)
  else if pc = 23 then (match ls, st with
    | [.ref rl0, .int bl1, .int bl2, gl3], [.int bs0] => (sm_eqp rl0 p (jC_askedType_23 p bl1 bl2 bs0 D' M))
    | _, _ => none)
  else none
theorem ll107_0 (p : Nat) (hp : [p] ∈ gC) (D : sm_D) {R : sm_S} : ∀ (pc : Nat) (ls st : List Value) (D' : sm_D) (M : sm_M) (v : sm_S), (lf107_0 p D) pc ls st D' M = some v → (fun v => v = R) v → sm_WJ smT smCl smSa shC f107 1 pc ls st D' M R := by
  intro pc ls st D' M v h hv
  unfold lf107_0 at h
  by_cases hp0 : pc = 22
  · subst hp0
    rw [if_pos (show (22 : Nat) = 22 from rfl)] at h
    split at h
    · skip
      replace h := sm_eqp_inv h
      obtain ⟨he, h⟩ := h
      subst he
      have hv : v = R := hv
      subst hv
      exact w107_22 _ hp h
    · cases h
  · rw [if_neg hp0] at h
    by_cases hp0 : pc = 23
    · subst hp0
      rw [if_pos (show (23 : Nat) = 23 from rfl)] at h
      split at h
      · skip
        replace h := sm_eqp_inv h
        obtain ⟨he, h⟩ := h
        subst he
        have hv : v = R := hv
        subst hv
        exact w107_23 _ hp h
      · cases h
    · rw [if_neg hp0] at h
      cases h
set_option maxRecDepth 20000 in
set_option maxHeartbeats 4000000 in
theorem we107 (p : Nat) (hp : [p] ∈ gC) {l1 l2 : Int32} {D : sm_D} {M : sm_M} {R : sm_S} (h : jC_askedType p l1 l2 D M = some R) : sm_WJ smT smCl smSa shC f107 1 0 [.ref p, .int l1, .int l2, .retAddr 0] [] D M R := by
  rcases gC_inv hp with rfl | rfl
  · have e : jC_askedType 40 l1 l2 D M = (sm_run shC smSa cal107 c107 false (fun a D M => some (a, D, M)) (lf107_0 40 D) 34 (c107.drop 0) [.ref 40, .int l1, .int l2, .retAddr 0] [] D M : Option (sm_S)) := rfl
    exact sm_blk (ρ := sm_S) (gd := (fun v => v = R)) (kx := 107) (i := 0) smVC rfl (by decide) ck107 (fun a D M v e1 e2 => by cases e1; exact e2.symm) (ll107_0 40 (by decide) D) rfl (e.symm.trans h) rfl
  · have e : jC_askedType 50 l1 l2 D M = (sm_run shC smSa cal107 c107 false (fun a D M => some (a, D, M)) (lf107_0 50 D) 34 (c107.drop 0) [.ref 50, .int l1, .int l2, .retAddr 0] [] D M : Option (sm_S)) := rfl
    exact sm_blk (ρ := sm_S) (gd := (fun v => v = R)) (kx := 107) (i := 0) smVC rfl (by decide) ck107 (fun a D M v e1 e2 => by cases e1; exact e2.symm) (ll107_0 50 (by decide) D) rfl (e.symm.trans h) rfl
theorem m107 {p : Nat} (hp : [p] ∈ gC) {l1 l2 : Int32} {D : sm_D} {M : sm_M} {R : sm_S} (h : jC_askedType p l1 l2 D M = some R) : sm_MJ smT smCl smSa shC f107 1 [.ref p, .int l1, .int l2] D M R :=
  sm_met (by decide) (Nat.le_of_ble_eq_true rfl) (List.all_eq_true.mp rfl) (we107 p hp h)

-- jK_beginsRight
noncomputable def cal90  : sm_Cal := fun x as D M =>
  if x = 107 then (match as with
    | [.ref q0, .int a1, .int a2] => (sm_ga [q0] gC (jC_askedType q0 a1 a2 D M))
    | _ => none)
  else if x = 104 then (match as with
    | [.ref q0, .int a1] => (sm_ga [q0] gC (jC_hasBlock q0 a1 D M))
    | _ => none)
  else none
theorem ck90  : sm_CalOk smT smCl smP smSa shC 2 cal90 := by
  intro x g as D M R hx h
  unfold cal90 at h
  by_cases hx' : x = 107
  · subst hx'
    rw [if_pos (show (107 : Nat) = 107 from rfl)] at h
    cases (show smP[107]? = some f107 from rfl).symm.trans hx
    split at h
    · replace h := sm_ga_inv h
      obtain ⟨h1, h⟩ := h
      exact Or.inl ⟨1, by omega, m107  h1 h⟩
    · cases h
  · rw [if_neg hx'] at h
    by_cases hx' : x = 104
    · subst hx'
      rw [if_pos (show (104 : Nat) = 104 from rfl)] at h
      cases (show smP[104]? = some f104 from rfl).symm.trans hx
      split at h
      · replace h := sm_ga_inv h
        obtain ⟨h1, h⟩ := h
        exact Or.inl ⟨0, by omega, m104  h1 h⟩
      · cases h
    · rw [if_neg hx'] at h
      cases h
set_option maxRecDepth 20000 in
set_option maxHeartbeats 4000000 in
theorem w90_61 (d0 d1 d2 d3 d4 : Nat) (hd3 : [d3] ∈ gC) {s0 : Int32} {g0 g1 : Value} {M : sm_M} {R : sm_S} (h : jK_beginsRight_61 d0 d1 d2 d3 d4 s0 M = some R) : sm_WJ smT smCl smSa shC f90 2 61 [g0, g1] [.int s0] [d0, d1, d2, d3, d4] M R := by
  rcases gC_inv hd3 with rfl | rfl
  · have e : jK_beginsRight_61 d0 d1 d2 40 d4 s0 M = (sm_run shC smSa cal90 c90 true (fun a D M => some (a, D, M)) sm_noleaf 39 (c90.drop 33) [g0, g1] [.int s0] [d0, d1, d2, 40, d4] M : Option (sm_S)) := rfl
    exact sm_blk (ρ := sm_S) (gd := (fun v => v = R)) (kx := 90) (i := 33) smVC rfl (by decide) ck90 (fun a D M v e1 e2 => by cases e1; exact e2.symm) (sm_noleaf_ok) rfl (e.symm.trans h) rfl
  · have e : jK_beginsRight_61 d0 d1 d2 50 d4 s0 M = (sm_run shC smSa cal90 c90 true (fun a D M => some (a, D, M)) sm_noleaf 39 (c90.drop 33) [g0, g1] [.int s0] [d0, d1, d2, 50, d4] M : Option (sm_S)) := rfl
    exact sm_blk (ρ := sm_S) (gd := (fun v => v = R)) (kx := 90) (i := 33) smVC rfl (by decide) ck90 (fun a D M v e1 e2 => by cases e1; exact e2.symm) (sm_noleaf_ok) rfl (e.symm.trans h) rfl
noncomputable def lf90_60 (d0 d1 d2 d3 d4 : Nat) : Nat → List Value → List Value → sm_D → sm_M → Option (sm_S) := fun pc ls st D' M =>
  if pc = 61 then (match ls, st with
    | [gl0, gl1], [.int bs0] => (sm_dq D' [d0, d1, d2, d3, d4] (jK_beginsRight_61 d0 d1 d2 d3 d4 bs0 M))
    | _, _ => none)
  else none
theorem ll90_60 (d0 d1 d2 d3 d4 : Nat) (hd3 : [d3] ∈ gC) {R : sm_S} : ∀ (pc : Nat) (ls st : List Value) (D' : sm_D) (M : sm_M) (v : sm_S), (lf90_60 d0 d1 d2 d3 d4) pc ls st D' M = some v → (fun v => v = R) v → sm_WJ smT smCl smSa shC f90 2 pc ls st D' M R := by
  intro pc ls st D' M v h hv
  unfold lf90_60 at h
  by_cases hp0 : pc = 61
  · subst hp0
    rw [if_pos (show (61 : Nat) = 61 from rfl)] at h
    split at h
    · skip
      replace h := sm_dq_inv h
      obtain ⟨he, h⟩ := h
      subst he
      have hv : v = R := hv
      subst hv
      exact w90_61 _ _ _ _ _ hd3 h
    · cases h
  · rw [if_neg hp0] at h
    cases h
set_option maxRecDepth 20000 in
set_option maxHeartbeats 4000000 in
theorem w90_60 (d0 d1 d2 d3 d4 : Nat) (hd3 : [d3] ∈ gC) {g0 g1 : Value} {M : sm_M} {R : sm_S} (h : jK_beginsRight_60 d0 d1 d2 d3 d4 M = some R) : sm_WJ smT smCl smSa shC f90 2 60 [g0, g1] [] [d0, d1, d2, d3, d4] M R := by
  rcases gC_inv hd3 with rfl | rfl
  · have e : jK_beginsRight_60 d0 d1 d2 40 d4 M = (sm_run shC smSa cal90 c90 true (fun a D M => some (a, D, M)) (lf90_60 d0 d1 d2 40 d4) 39 (c90.drop 32) [g0, g1] [] [d0, d1, d2, 40, d4] M : Option (sm_S)) := rfl
    exact sm_blk (ρ := sm_S) (gd := (fun v => v = R)) (kx := 90) (i := 32) smVC rfl (by decide) ck90 (fun a D M v e1 e2 => by cases e1; exact e2.symm) (ll90_60 d0 d1 d2 40 d4 (by decide)) rfl (e.symm.trans h) rfl
  · have e : jK_beginsRight_60 d0 d1 d2 50 d4 M = (sm_run shC smSa cal90 c90 true (fun a D M => some (a, D, M)) (lf90_60 d0 d1 d2 50 d4) 39 (c90.drop 32) [g0, g1] [] [d0, d1, d2, 50, d4] M : Option (sm_S)) := rfl
    exact sm_blk (ρ := sm_S) (gd := (fun v => v = R)) (kx := 90) (i := 32) smVC rfl (by decide) ck90 (fun a D M v e1 e2 => by cases e1; exact e2.symm) (ll90_60 d0 d1 d2 50 d4 (by decide)) rfl (e.symm.trans h) rfl
noncomputable def lf90_30 (d0 d1 d2 d3 d4 : Nat) : Nat → List Value → List Value → sm_D → sm_M → Option (sm_S) := fun pc ls st D' M =>
  if pc = 60 then (match ls, st with
    | [gl0, gl1], [] => (sm_dq D' [d0, d1, d2, d3, d4] (jK_beginsRight_60 d0 d1 d2 d3 d4 M))
    | _, _ => none)
  else if pc = 61 then (match ls, st with
    | [gl0, gl1], [.int bs0] => (sm_dq D' [d0, d1, d2, d3, d4] (jK_beginsRight_61 d0 d1 d2 d3 d4 bs0 M))
    | _, _ => none)
  else none
theorem ll90_30 (d0 d1 d2 d3 d4 : Nat) (hd3 : [d3] ∈ gC) {R : sm_S} : ∀ (pc : Nat) (ls st : List Value) (D' : sm_D) (M : sm_M) (v : sm_S), (lf90_30 d0 d1 d2 d3 d4) pc ls st D' M = some v → (fun v => v = R) v → sm_WJ smT smCl smSa shC f90 2 pc ls st D' M R := by
  intro pc ls st D' M v h hv
  unfold lf90_30 at h
  by_cases hp0 : pc = 60
  · subst hp0
    rw [if_pos (show (60 : Nat) = 60 from rfl)] at h
    split at h
    · skip
      replace h := sm_dq_inv h
      obtain ⟨he, h⟩ := h
      subst he
      have hv : v = R := hv
      subst hv
      exact w90_60 _ _ _ _ _ hd3 h
    · cases h
  · rw [if_neg hp0] at h
    by_cases hp0 : pc = 61
    · subst hp0
      rw [if_pos (show (61 : Nat) = 61 from rfl)] at h
      split at h
      · skip
        replace h := sm_dq_inv h
        obtain ⟨he, h⟩ := h
        subst he
        have hv : v = R := hv
        subst hv
        exact w90_61 _ _ _ _ _ hd3 h
      · cases h
    · rw [if_neg hp0] at h
      cases h
set_option maxRecDepth 20000 in
set_option maxHeartbeats 4000000 in
theorem w90_30 (d0 d1 d2 d3 d4 : Nat) (hd3 : [d3] ∈ gC) {g1 : Value} {M : sm_M} {R : sm_S} (h : jK_beginsRight_30 d0 d1 d2 d3 d4 M = some R) : sm_WJ smT smCl smSa shC f90 2 30 [.ref 31, g1] [] [d0, d1, d2, d3, d4] M R := by
  rcases gC_inv hd3 with rfl | rfl
  · have e : jK_beginsRight_30 d0 d1 d2 40 d4 M = (sm_run shC smSa cal90 c90 true (fun a D M => some (a, D, M)) (lf90_30 d0 d1 d2 40 d4) 39 (c90.drop 16) [.ref 31, g1] [] [d0, d1, d2, 40, d4] M : Option (sm_S)) := rfl
    exact sm_blk (ρ := sm_S) (gd := (fun v => v = R)) (kx := 90) (i := 16) smVC rfl (by decide) ck90 (fun a D M v e1 e2 => by cases e1; exact e2.symm) (ll90_30 d0 d1 d2 40 d4 (by decide)) rfl (e.symm.trans h) rfl
  · have e : jK_beginsRight_30 d0 d1 d2 50 d4 M = (sm_run shC smSa cal90 c90 true (fun a D M => some (a, D, M)) (lf90_30 d0 d1 d2 50 d4) 39 (c90.drop 16) [.ref 31, g1] [] [d0, d1, d2, 50, d4] M : Option (sm_S)) := rfl
    exact sm_blk (ρ := sm_S) (gd := (fun v => v = R)) (kx := 90) (i := 16) smVC rfl (by decide) ck90 (fun a D M v e1 e2 => by cases e1; exact e2.symm) (ll90_30 d0 d1 d2 50 d4 (by decide)) rfl (e.symm.trans h) rfl
noncomputable def lf90_0 (d0 d1 d2 d3 d4 : Nat) : Nat → List Value → List Value → sm_D → sm_M → Option (sm_S) := fun pc ls st D' M =>
  if pc = 30 then (match ls, st with
    | [.ref 31, gl1], [] => (sm_dq D' [d0, d1, d2, d3, d4] (jK_beginsRight_30 d0 d1 d2 d3 d4 M))
    | _, _ => none)
  else if pc = 60 then (match ls, st with
    | [gl0, gl1], [] => (sm_dq D' [d0, d1, d2, d3, d4] (jK_beginsRight_60 d0 d1 d2 d3 d4 M))
    | _, _ => none)
  else none
theorem ll90_0 (d0 d1 d2 d3 d4 : Nat) (hd3 : [d3] ∈ gC) {R : sm_S} : ∀ (pc : Nat) (ls st : List Value) (D' : sm_D) (M : sm_M) (v : sm_S), (lf90_0 d0 d1 d2 d3 d4) pc ls st D' M = some v → (fun v => v = R) v → sm_WJ smT smCl smSa shC f90 2 pc ls st D' M R := by
  intro pc ls st D' M v h hv
  unfold lf90_0 at h
  by_cases hp0 : pc = 30
  · subst hp0
    rw [if_pos (show (30 : Nat) = 30 from rfl)] at h
    split at h
    · skip
      replace h := sm_dq_inv h
      obtain ⟨he, h⟩ := h
      subst he
      have hv : v = R := hv
      subst hv
      exact w90_30 _ _ _ _ _ hd3 h
    · cases h
  · rw [if_neg hp0] at h
    by_cases hp0 : pc = 60
    · subst hp0
      rw [if_pos (show (60 : Nat) = 60 from rfl)] at h
      split at h
      · skip
        replace h := sm_dq_inv h
        obtain ⟨he, h⟩ := h
        subst he
        have hv : v = R := hv
        subst hv
        exact w90_60 _ _ _ _ _ hd3 h
      · cases h
    · rw [if_neg hp0] at h
      cases h
set_option maxRecDepth 20000 in
set_option maxHeartbeats 4000000 in
theorem we90 (d0 d1 d2 d3 d4 : Nat) (hd3 : [d3] ∈ gC) {M : sm_M} {R : sm_S} (h : jK_beginsRight d0 d1 d2 d3 d4 M = some R) : sm_WJ smT smCl smSa shC f90 2 0 [.ref 31, .retAddr 0] [] [d0, d1, d2, d3, d4] M R := by
  rcases gC_inv hd3 with rfl | rfl
  · have e : jK_beginsRight d0 d1 d2 40 d4 M = (sm_run shC smSa cal90 c90 true (fun a D M => some (a, D, M)) (lf90_0 d0 d1 d2 40 d4) 39 (c90.drop 0) [.ref 31, .retAddr 0] [] [d0, d1, d2, 40, d4] M : Option (sm_S)) := rfl
    exact sm_blk (ρ := sm_S) (gd := (fun v => v = R)) (kx := 90) (i := 0) smVC rfl (by decide) ck90 (fun a D M v e1 e2 => by cases e1; exact e2.symm) (ll90_0 d0 d1 d2 40 d4 (by decide)) rfl (e.symm.trans h) rfl
  · have e : jK_beginsRight d0 d1 d2 50 d4 M = (sm_run shC smSa cal90 c90 true (fun a D M => some (a, D, M)) (lf90_0 d0 d1 d2 50 d4) 39 (c90.drop 0) [.ref 31, .retAddr 0] [] [d0, d1, d2, 50, d4] M : Option (sm_S)) := rfl
    exact sm_blk (ρ := sm_S) (gd := (fun v => v = R)) (kx := 90) (i := 0) smVC rfl (by decide) ck90 (fun a D M v e1 e2 => by cases e1; exact e2.symm) (ll90_0 d0 d1 d2 50 d4 (by decide)) rfl (e.symm.trans h) rfl
theorem m90 {d0 d1 d2 d3 d4 : Nat} (hd3 : [d3] ∈ gC) {M : sm_M} {R : sm_S} (h : jK_beginsRight d0 d1 d2 d3 d4 M = some R) : sm_MJ smT smCl smSa shC f90 2 [.ref 31] [d0, d1, d2, d3, d4] M R :=
  sm_met (by decide) (Nat.le_of_ble_eq_true rfl) (List.all_eq_true.mp rfl) (we90 d0 d1 d2 d3 d4 hd3 h)

-- jC_startOf
noncomputable def cal105  : sm_Cal := fun x as D M =>
  if x = 104 then (match as with
    | [.ref q0, .int a1] => (sm_ga [q0] gC (jC_hasBlock q0 a1 D M))
    | _ => none)
  else none
theorem ck105  : sm_CalOk smT smCl smP smSa shC 1 cal105 := by
  intro x g as D M R hx h
  unfold cal105 at h
  by_cases hx' : x = 104
  · subst hx'
    rw [if_pos (show (104 : Nat) = 104 from rfl)] at h
    cases (show smP[104]? = some f104 from rfl).symm.trans hx
    split at h
    · replace h := sm_ga_inv h
      obtain ⟨h1, h⟩ := h
      exact Or.inl ⟨0, by omega, m104  h1 h⟩
    · cases h
  · rw [if_neg hx'] at h
    cases h
set_option maxRecDepth 20000 in
set_option maxHeartbeats 4000000 in
theorem w105_18 (p : Nat) (hp : [p] ∈ gC) {s0 : Int32} {g0 g1 : Value} {D : sm_D} {M : sm_M} {R : sm_S} (h : jC_startOf_18 p s0 D M = some R) : sm_WJ smT smCl smSa shC f105 1 18 [g0, g1] [.int s0] D M R := by
  rcases gC_inv hp with rfl | rfl
  · have e : jC_startOf_18 40 s0 D M = (sm_run shC smSa cal105 c105 false (fun a D M => some (a, D, M)) sm_noleaf 16 (c105.drop 10) [g0, g1] [.int s0] D M : Option (sm_S)) := rfl
    exact sm_blk (ρ := sm_S) (gd := (fun v => v = R)) (kx := 105) (i := 10) smVC rfl (by decide) ck105 (fun a D M v e1 e2 => by cases e1; exact e2.symm) (sm_noleaf_ok) rfl (e.symm.trans h) rfl
  · have e : jC_startOf_18 50 s0 D M = (sm_run shC smSa cal105 c105 false (fun a D M => some (a, D, M)) sm_noleaf 16 (c105.drop 10) [g0, g1] [.int s0] D M : Option (sm_S)) := rfl
    exact sm_blk (ρ := sm_S) (gd := (fun v => v = R)) (kx := 105) (i := 10) smVC rfl (by decide) ck105 (fun a D M v e1 e2 => by cases e1; exact e2.symm) (sm_noleaf_ok) rfl (e.symm.trans h) rfl
noncomputable def lf105_0 (p : Nat) (D : sm_D) : Nat → List Value → List Value → sm_D → sm_M → Option (sm_S) := fun pc ls st D' M =>
  if pc = 18 then (match ls, st with
    | [gl0, gl1], [.int bs0] => (jC_startOf_18 p bs0 D' M)
    | _, _ => none)
  else none
theorem ll105_0 (p : Nat) (hp : [p] ∈ gC) (D : sm_D) {R : sm_S} : ∀ (pc : Nat) (ls st : List Value) (D' : sm_D) (M : sm_M) (v : sm_S), (lf105_0 p D) pc ls st D' M = some v → (fun v => v = R) v → sm_WJ smT smCl smSa shC f105 1 pc ls st D' M R := by
  intro pc ls st D' M v h hv
  unfold lf105_0 at h
  by_cases hp0 : pc = 18
  · subst hp0
    rw [if_pos (show (18 : Nat) = 18 from rfl)] at h
    split at h
    · skip
      have hv : v = R := hv
      subst hv
      exact w105_18 _ hp h
    · cases h
  · rw [if_neg hp0] at h
    cases h
set_option maxRecDepth 20000 in
set_option maxHeartbeats 4000000 in
theorem we105 (p : Nat) (hp : [p] ∈ gC) {l1 : Int32} {D : sm_D} {M : sm_M} {R : sm_S} (h : jC_startOf p l1 D M = some R) : sm_WJ smT smCl smSa shC f105 1 0 [.ref p, .int l1] [] D M R := by
  rcases gC_inv hp with rfl | rfl
  · have e : jC_startOf 40 l1 D M = (sm_run shC smSa cal105 c105 false (fun a D M => some (a, D, M)) (lf105_0 40 D) 16 (c105.drop 0) [.ref 40, .int l1] [] D M : Option (sm_S)) := rfl
    exact sm_blk (ρ := sm_S) (gd := (fun v => v = R)) (kx := 105) (i := 0) smVC rfl (by decide) ck105 (fun a D M v e1 e2 => by cases e1; exact e2.symm) (ll105_0 40 (by decide) D) rfl (e.symm.trans h) rfl
  · have e : jC_startOf 50 l1 D M = (sm_run shC smSa cal105 c105 false (fun a D M => some (a, D, M)) (lf105_0 50 D) 16 (c105.drop 0) [.ref 50, .int l1] [] D M : Option (sm_S)) := rfl
    exact sm_blk (ρ := sm_S) (gd := (fun v => v = R)) (kx := 105) (i := 0) smVC rfl (by decide) ck105 (fun a D M v e1 e2 => by cases e1; exact e2.symm) (ll105_0 50 (by decide) D) rfl (e.symm.trans h) rfl
theorem m105 {p : Nat} (hp : [p] ∈ gC) {l1 : Int32} {D : sm_D} {M : sm_M} {R : sm_S} (h : jC_startOf p l1 D M = some R) : sm_MJ smT smCl smSa shC f105 1 [.ref p, .int l1] D M R :=
  sm_met (by decide) (Nat.le_of_ble_eq_true rfl) (List.all_eq_true.mp rfl) (we105 p hp h)

-- jC_lengthOf
noncomputable def cal106  : sm_Cal := fun x as D M =>
  if x = 104 then (match as with
    | [.ref q0, .int a1] => (sm_ga [q0] gC (jC_hasBlock q0 a1 D M))
    | _ => none)
  else none
theorem ck106  : sm_CalOk smT smCl smP smSa shC 1 cal106 := by
  intro x g as D M R hx h
  unfold cal106 at h
  by_cases hx' : x = 104
  · subst hx'
    rw [if_pos (show (104 : Nat) = 104 from rfl)] at h
    cases (show smP[104]? = some f104 from rfl).symm.trans hx
    split at h
    · replace h := sm_ga_inv h
      obtain ⟨h1, h⟩ := h
      exact Or.inl ⟨0, by omega, m104  h1 h⟩
    · cases h
  · rw [if_neg hx'] at h
    cases h
set_option maxRecDepth 20000 in
set_option maxHeartbeats 4000000 in
theorem w106_18 (p : Nat) (hp : [p] ∈ gC) {s0 : Int32} {g0 g1 : Value} {D : sm_D} {M : sm_M} {R : sm_S} (h : jC_lengthOf_18 p s0 D M = some R) : sm_WJ smT smCl smSa shC f106 1 18 [g0, g1] [.int s0] D M R := by
  rcases gC_inv hp with rfl | rfl
  · have e : jC_lengthOf_18 40 s0 D M = (sm_run shC smSa cal106 c106 false (fun a D M => some (a, D, M)) sm_noleaf 16 (c106.drop 10) [g0, g1] [.int s0] D M : Option (sm_S)) := rfl
    exact sm_blk (ρ := sm_S) (gd := (fun v => v = R)) (kx := 106) (i := 10) smVC rfl (by decide) ck106 (fun a D M v e1 e2 => by cases e1; exact e2.symm) (sm_noleaf_ok) rfl (e.symm.trans h) rfl
  · have e : jC_lengthOf_18 50 s0 D M = (sm_run shC smSa cal106 c106 false (fun a D M => some (a, D, M)) sm_noleaf 16 (c106.drop 10) [g0, g1] [.int s0] D M : Option (sm_S)) := rfl
    exact sm_blk (ρ := sm_S) (gd := (fun v => v = R)) (kx := 106) (i := 10) smVC rfl (by decide) ck106 (fun a D M v e1 e2 => by cases e1; exact e2.symm) (sm_noleaf_ok) rfl (e.symm.trans h) rfl
noncomputable def lf106_0 (p : Nat) (D : sm_D) : Nat → List Value → List Value → sm_D → sm_M → Option (sm_S) := fun pc ls st D' M =>
  if pc = 18 then (match ls, st with
    | [gl0, gl1], [.int bs0] => (jC_lengthOf_18 p bs0 D' M)
    | _, _ => none)
  else none
theorem ll106_0 (p : Nat) (hp : [p] ∈ gC) (D : sm_D) {R : sm_S} : ∀ (pc : Nat) (ls st : List Value) (D' : sm_D) (M : sm_M) (v : sm_S), (lf106_0 p D) pc ls st D' M = some v → (fun v => v = R) v → sm_WJ smT smCl smSa shC f106 1 pc ls st D' M R := by
  intro pc ls st D' M v h hv
  unfold lf106_0 at h
  by_cases hp0 : pc = 18
  · subst hp0
    rw [if_pos (show (18 : Nat) = 18 from rfl)] at h
    split at h
    · skip
      have hv : v = R := hv
      subst hv
      exact w106_18 _ hp h
    · cases h
  · rw [if_neg hp0] at h
    cases h
set_option maxRecDepth 20000 in
set_option maxHeartbeats 4000000 in
theorem we106 (p : Nat) (hp : [p] ∈ gC) {l1 : Int32} {D : sm_D} {M : sm_M} {R : sm_S} (h : jC_lengthOf p l1 D M = some R) : sm_WJ smT smCl smSa shC f106 1 0 [.ref p, .int l1] [] D M R := by
  rcases gC_inv hp with rfl | rfl
  · have e : jC_lengthOf 40 l1 D M = (sm_run shC smSa cal106 c106 false (fun a D M => some (a, D, M)) (lf106_0 40 D) 16 (c106.drop 0) [.ref 40, .int l1] [] D M : Option (sm_S)) := rfl
    exact sm_blk (ρ := sm_S) (gd := (fun v => v = R)) (kx := 106) (i := 0) smVC rfl (by decide) ck106 (fun a D M v e1 e2 => by cases e1; exact e2.symm) (ll106_0 40 (by decide) D) rfl (e.symm.trans h) rfl
  · have e : jC_lengthOf 50 l1 D M = (sm_run shC smSa cal106 c106 false (fun a D M => some (a, D, M)) (lf106_0 50 D) 16 (c106.drop 0) [.ref 50, .int l1] [] D M : Option (sm_S)) := rfl
    exact sm_blk (ρ := sm_S) (gd := (fun v => v = R)) (kx := 106) (i := 0) smVC rfl (by decide) ck106 (fun a D M v e1 e2 => by cases e1; exact e2.symm) (ll106_0 50 (by decide) D) rfl (e.symm.trans h) rfl
theorem m106 {p : Nat} (hp : [p] ∈ gC) {l1 : Int32} {D : sm_D} {M : sm_M} {R : sm_S} (h : jC_lengthOf p l1 D M = some R) : sm_MJ smT smCl smSa shC f106 1 [.ref p, .int l1] D M R :=
  sm_met (by decide) (Nat.le_of_ble_eq_true rfl) (List.all_eq_true.mp rfl) (we106 p hp h)

-- jK_gets
set_option maxRecDepth 20000 in
set_option maxHeartbeats 4000000 in
theorem we94 {l1 l2 : Int32} {D : sm_D} {M : sm_M} {R : sm_S} (h : jK_gets l1 l2 D M = some R) : sm_WJ smT smCl smSa shC f94 0 0 [.ref 31, .int l1, .int l2] [] D M R := by
  have e : jK_gets l1 l2 D M = (sm_run shC smSa sm_nocal c94 true (fun a D M => some (a, D, M)) sm_noleaf 12 (c94.drop 0) [.ref 31, .int l1, .int l2] [] D M : Option (sm_S)) := rfl
  exact sm_blk (ρ := sm_S) (gd := (fun v => v = R)) (kx := 94) (i := 0) smVC rfl (by decide) (sm_nocal_ok smT smCl smP smSa shC 0) (fun a D M v e1 e2 => by cases e1; exact e2.symm) (sm_noleaf_ok) rfl (e.symm.trans h) rfl
theorem m94 {l1 l2 : Int32} {D : sm_D} {M : sm_M} {R : sm_S} (h : jK_gets l1 l2 D M = some R) : sm_MJ smT smCl smSa shC f94 0 [.ref 31, .int l1, .int l2] D M R :=
  sm_met (by decide) (Nat.le_of_ble_eq_true rfl) (List.all_eq_true.mp rfl) (we94  h)

-- jK_typeOfBlock
noncomputable def cal95  : sm_Cal := fun x as D M =>
  if x = 107 then (match as with
    | [.ref q0, .int a1, .int a2] => (sm_ga [q0] gC (jC_askedType q0 a1 a2 D M))
    | _ => none)
  else if x = 159 then (match as with
    | [.ref 1, .int a1, .int a2, .int a3, .int a4] => (jT_find a1 a2 a3 a4 D M)
    | _ => none)
  else none
theorem ck95  : sm_CalOk smT smCl smP smSa shC 2 cal95 := by
  intro x g as D M R hx h
  unfold cal95 at h
  by_cases hx' : x = 107
  · subst hx'
    rw [if_pos (show (107 : Nat) = 107 from rfl)] at h
    cases (show smP[107]? = some f107 from rfl).symm.trans hx
    split at h
    · replace h := sm_ga_inv h
      obtain ⟨h1, h⟩ := h
      exact Or.inl ⟨1, by omega, m107  h1 h⟩
    · cases h
  · rw [if_neg hx'] at h
    by_cases hx' : x = 159
    · subst hx'
      rw [if_pos (show (159 : Nat) = 159 from rfl)] at h
      cases (show smP[159]? = some f159 from rfl).symm.trans hx
      split at h
      · skip
        exact Or.inl ⟨1, by omega, m159   h⟩
      · cases h
    · rw [if_neg hx'] at h
      cases h
set_option maxRecDepth 20000 in
set_option maxHeartbeats 4000000 in
theorem we95 (d0 d1 d2 d3 d4 : Nat) (hd3 : [d3] ∈ gC) {l1 : Int32} {M : sm_M} {R : sm_S} (h : jK_typeOfBlock d0 d1 d2 d3 d4 l1 M = some R) : sm_WJ smT smCl smSa shC f95 2 0 [.ref 31, .int l1] [] [d0, d1, d2, d3, d4] M R := by
  rcases gC_inv hd3 with rfl | rfl
  · have e : jK_typeOfBlock d0 d1 d2 40 d4 l1 M = (sm_run shC smSa cal95 c95 false (fun a D M => some (a, D, M)) sm_noleaf 25 (c95.drop 0) [.ref 31, .int l1] [] [d0, d1, d2, 40, d4] M : Option (sm_S)) := rfl
    exact sm_blk (ρ := sm_S) (gd := (fun v => v = R)) (kx := 95) (i := 0) smVC rfl (by decide) ck95 (fun a D M v e1 e2 => by cases e1; exact e2.symm) (sm_noleaf_ok) rfl (e.symm.trans h) rfl
  · have e : jK_typeOfBlock d0 d1 d2 50 d4 l1 M = (sm_run shC smSa cal95 c95 false (fun a D M => some (a, D, M)) sm_noleaf 25 (c95.drop 0) [.ref 31, .int l1] [] [d0, d1, d2, 50, d4] M : Option (sm_S)) := rfl
    exact sm_blk (ρ := sm_S) (gd := (fun v => v = R)) (kx := 95) (i := 0) smVC rfl (by decide) ck95 (fun a D M v e1 e2 => by cases e1; exact e2.symm) (sm_noleaf_ok) rfl (e.symm.trans h) rfl
theorem m95 {d0 d1 d2 d3 d4 : Nat} (hd3 : [d3] ∈ gC) {l1 : Int32} {M : sm_M} {R : sm_S} (h : jK_typeOfBlock d0 d1 d2 d3 d4 l1 M = some R) : sm_MJ smT smCl smSa shC f95 2 [.ref 31, .int l1] [d0, d1, d2, d3, d4] M R :=
  sm_met (by decide) (Nat.le_of_ble_eq_true rfl) (List.all_eq_true.mp rfl) (we95 d0 d1 d2 d3 d4 hd3 h)

-- jK_taken
noncomputable def cal96  : sm_Cal := fun x as D M =>
  if x = 153 then (match as with
    | [.ref 1, .int a1] => (jT_firstOf a1 D M)
    | _ => none)
  else none
theorem ck96  : sm_CalOk smT smCl smP smSa shC 2 cal96 := by
  intro x g as D M R hx h
  unfold cal96 at h
  by_cases hx' : x = 153
  · subst hx'
    rw [if_pos (show (153 : Nat) = 153 from rfl)] at h
    cases (show smP[153]? = some f153 from rfl).symm.trans hx
    split at h
    · skip
      exact Or.inl ⟨1, by omega, m153   h⟩
    · cases h
  · rw [if_neg hx'] at h
    cases h
set_option maxRecDepth 20000 in
set_option maxHeartbeats 4000000 in
theorem we96 {l1 : Int32} {D : sm_D} {M : sm_M} {R : sm_S} (h : jK_taken l1 D M = some R) : sm_WJ smT smCl smSa shC f96 2 0 [.ref 31, .int l1] [] D M R := by
  have e : jK_taken l1 D M = (sm_run shC smSa cal96 c96 false (fun a D M => some (a, D, M)) sm_noleaf 10 (c96.drop 0) [.ref 31, .int l1] [] D M : Option (sm_S)) := rfl
  exact sm_blk (ρ := sm_S) (gd := (fun v => v = R)) (kx := 96) (i := 0) smVC rfl (by decide) ck96 (fun a D M v e1 e2 => by cases e1; exact e2.symm) (sm_noleaf_ok) rfl (e.symm.trans h) rfl
theorem m96 {l1 : Int32} {D : sm_D} {M : sm_M} {R : sm_S} (h : jK_taken l1 D M = some R) : sm_MJ smT smCl smSa shC f96 2 [.ref 31, .int l1] D M R :=
  sm_met (by decide) (Nat.le_of_ble_eq_true rfl) (List.all_eq_true.mp rfl) (we96  h)

-- jT_thirdOf
noncomputable def cal155  : sm_Cal := fun x as D M =>
  if x = 150 then (match as with
    | [.ref 1, .int a1] => (jT_has a1 D M)
    | _ => none)
  else none
theorem ck155  : sm_CalOk smT smCl smP smSa shC 1 cal155 := by
  intro x g as D M R hx h
  unfold cal155 at h
  by_cases hx' : x = 150
  · subst hx'
    rw [if_pos (show (150 : Nat) = 150 from rfl)] at h
    cases (show smP[150]? = some f150 from rfl).symm.trans hx
    split at h
    · skip
      exact Or.inl ⟨0, by omega, m150   h⟩
    · cases h
  · rw [if_neg hx'] at h
    cases h
set_option maxRecDepth 20000 in
set_option maxHeartbeats 4000000 in
theorem w155_18 {s0 : Int32} {g0 g1 : Value} {D : sm_D} {M : sm_M} {R : sm_S} (h : jT_thirdOf_18 s0 D M = some R) : sm_WJ smT smCl smSa shC f155 1 18 [g0, g1] [.int s0] D M R := by
  have e : jT_thirdOf_18 s0 D M = (sm_run shC smSa cal155 c155 false (fun a D M => some (a, D, M)) sm_noleaf 16 (c155.drop 10) [g0, g1] [.int s0] D M : Option (sm_S)) := rfl
  exact sm_blk (ρ := sm_S) (gd := (fun v => v = R)) (kx := 155) (i := 10) smVC rfl (by decide) ck155 (fun a D M v e1 e2 => by cases e1; exact e2.symm) (sm_noleaf_ok) rfl (e.symm.trans h) rfl
noncomputable def lf155_0 (D : sm_D) : Nat → List Value → List Value → sm_D → sm_M → Option (sm_S) := fun pc ls st D' M =>
  if pc = 18 then (match ls, st with
    | [gl0, gl1], [.int bs0] => (jT_thirdOf_18 bs0 D' M)
    | _, _ => none)
  else none
theorem ll155_0 (D : sm_D) {R : sm_S} : ∀ (pc : Nat) (ls st : List Value) (D' : sm_D) (M : sm_M) (v : sm_S), (lf155_0 D) pc ls st D' M = some v → (fun v => v = R) v → sm_WJ smT smCl smSa shC f155 1 pc ls st D' M R := by
  intro pc ls st D' M v h hv
  unfold lf155_0 at h
  by_cases hp0 : pc = 18
  · subst hp0
    rw [if_pos (show (18 : Nat) = 18 from rfl)] at h
    split at h
    · skip
      have hv : v = R := hv
      subst hv
      exact w155_18  h
    · cases h
  · rw [if_neg hp0] at h
    cases h
set_option maxRecDepth 20000 in
set_option maxHeartbeats 4000000 in
theorem we155 {l1 : Int32} {D : sm_D} {M : sm_M} {R : sm_S} (h : jT_thirdOf l1 D M = some R) : sm_WJ smT smCl smSa shC f155 1 0 [.ref 1, .int l1] [] D M R := by
  have e : jT_thirdOf l1 D M = (sm_run shC smSa cal155 c155 false (fun a D M => some (a, D, M)) (lf155_0 D) 16 (c155.drop 0) [.ref 1, .int l1] [] D M : Option (sm_S)) := rfl
  exact sm_blk (ρ := sm_S) (gd := (fun v => v = R)) (kx := 155) (i := 0) smVC rfl (by decide) ck155 (fun a D M v e1 e2 => by cases e1; exact e2.symm) (ll155_0 D) rfl (e.symm.trans h) rfl
theorem m155 {l1 : Int32} {D : sm_D} {M : sm_M} {R : sm_S} (h : jT_thirdOf l1 D M = some R) : sm_MJ smT smCl smSa shC f155 1 [.ref 1, .int l1] D M R :=
  sm_met (by decide) (Nat.le_of_ble_eq_true rfl) (List.all_eq_true.mp rfl) (we155  h)

-- jK_waitsFor
noncomputable def cal98  : sm_Cal := fun x as D M =>
  if x = 152 then (match as with
    | [.ref 1, .int a1] => (jT_kindOf a1 D M)
    | _ => none)
  else if x = 153 then (match as with
    | [.ref 1, .int a1] => (jT_firstOf a1 D M)
    | _ => none)
  else if x = 154 then (match as with
    | [.ref 1, .int a1] => (jT_secondOf a1 D M)
    | _ => none)
  else none
theorem ck98  : sm_CalOk smT smCl smP smSa shC 2 cal98 := by
  intro x g as D M R hx h
  unfold cal98 at h
  by_cases hx' : x = 152
  · subst hx'
    rw [if_pos (show (152 : Nat) = 152 from rfl)] at h
    cases (show smP[152]? = some f152 from rfl).symm.trans hx
    split at h
    · skip
      exact Or.inl ⟨1, by omega, m152   h⟩
    · cases h
  · rw [if_neg hx'] at h
    by_cases hx' : x = 153
    · subst hx'
      rw [if_pos (show (153 : Nat) = 153 from rfl)] at h
      cases (show smP[153]? = some f153 from rfl).symm.trans hx
      split at h
      · skip
        exact Or.inl ⟨1, by omega, m153   h⟩
      · cases h
    · rw [if_neg hx'] at h
      by_cases hx' : x = 154
      · subst hx'
        rw [if_pos (show (154 : Nat) = 154 from rfl)] at h
        cases (show smP[154]? = some f154 from rfl).symm.trans hx
        split at h
        · skip
          exact Or.inl ⟨1, by omega, m154   h⟩
        · cases h
      · rw [if_neg hx'] at h
        cases h
set_option maxRecDepth 20000 in
set_option maxHeartbeats 4000000 in
theorem w98_22 {s0 : Int32} {g0 g1 g2 : Value} {D : sm_D} {M : sm_M} {R : sm_S} (h : jK_waitsFor_22 s0 D M = some R) : sm_WJ smT smCl smSa shC f98 2 22 [g0, g1, g2] [.int s0] D M R := by
  have e : jK_waitsFor_22 s0 D M = (sm_run shC smSa cal98 c98 true (fun a D M => some (a, D, M)) sm_noleaf 37 (c98.drop 12) [g0, g1, g2] [.int s0] D M : Option (sm_S)) := rfl
  exact sm_blk (ρ := sm_S) (gd := (fun v => v = R)) (kx := 98) (i := 12) smVC rfl (by decide) ck98 (fun a D M v e1 e2 => by cases e1; exact e2.symm) (sm_noleaf_ok) rfl (e.symm.trans h) rfl
set_option maxRecDepth 20000 in
set_option maxHeartbeats 4000000 in
theorem w98_59 {s0 : Int32} {g0 g1 g2 : Value} {D : sm_D} {M : sm_M} {R : sm_S} (h : jK_waitsFor_59 s0 D M = some R) : sm_WJ smT smCl smSa shC f98 2 59 [g0, g1, g2] [.int s0] D M R := by
  have e : jK_waitsFor_59 s0 D M = (sm_run shC smSa cal98 c98 true (fun a D M => some (a, D, M)) sm_noleaf 37 (c98.drop 31) [g0, g1, g2] [.int s0] D M : Option (sm_S)) := rfl
  exact sm_blk (ρ := sm_S) (gd := (fun v => v = R)) (kx := 98) (i := 31) smVC rfl (by decide) ck98 (fun a D M v e1 e2 => by cases e1; exact e2.symm) (sm_noleaf_ok) rfl (e.symm.trans h) rfl
noncomputable def lf98_58 (D : sm_D) : Nat → List Value → List Value → sm_D → sm_M → Option (sm_S) := fun pc ls st D' M =>
  if pc = 59 then (match ls, st with
    | [gl0, gl1, gl2], [.int bs0] => (jK_waitsFor_59 bs0 D' M)
    | _, _ => none)
  else none
theorem ll98_58 (D : sm_D) {R : sm_S} : ∀ (pc : Nat) (ls st : List Value) (D' : sm_D) (M : sm_M) (v : sm_S), (lf98_58 D) pc ls st D' M = some v → (fun v => v = R) v → sm_WJ smT smCl smSa shC f98 2 pc ls st D' M R := by
  intro pc ls st D' M v h hv
  unfold lf98_58 at h
  by_cases hp0 : pc = 59
  · subst hp0
    rw [if_pos (show (59 : Nat) = 59 from rfl)] at h
    split at h
    · skip
      have hv : v = R := hv
      subst hv
      exact w98_59  h
    · cases h
  · rw [if_neg hp0] at h
    cases h
set_option maxRecDepth 20000 in
set_option maxHeartbeats 4000000 in
theorem w98_58 {g0 g1 g2 : Value} {D : sm_D} {M : sm_M} {R : sm_S} (h : jK_waitsFor_58 D M = some R) : sm_WJ smT smCl smSa shC f98 2 58 [g0, g1, g2] [] D M R := by
  have e : jK_waitsFor_58 D M = (sm_run shC smSa cal98 c98 true (fun a D M => some (a, D, M)) (lf98_58 D) 37 (c98.drop 30) [g0, g1, g2] [] D M : Option (sm_S)) := rfl
  exact sm_blk (ρ := sm_S) (gd := (fun v => v = R)) (kx := 98) (i := 30) smVC rfl (by decide) ck98 (fun a D M v e1 e2 => by cases e1; exact e2.symm) (ll98_58 D) rfl (e.symm.trans h) rfl
noncomputable def lf98_0 (D : sm_D) : Nat → List Value → List Value → sm_D → sm_M → Option (sm_S) := fun pc ls st D' M =>
  if pc = 22 then (match ls, st with
    | [gl0, gl1, gl2], [.int bs0] => (jK_waitsFor_22 bs0 D' M)
    | _, _ => none)
  else if pc = 58 then (match ls, st with
    | [gl0, gl1, gl2], [] => (jK_waitsFor_58 D' M)
    | _, _ => none)
  else if pc = 59 then (match ls, st with
    | [gl0, gl1, gl2], [.int bs0] => (jK_waitsFor_59 bs0 D' M)
    | _, _ => none)
  else none
theorem ll98_0 (D : sm_D) {R : sm_S} : ∀ (pc : Nat) (ls st : List Value) (D' : sm_D) (M : sm_M) (v : sm_S), (lf98_0 D) pc ls st D' M = some v → (fun v => v = R) v → sm_WJ smT smCl smSa shC f98 2 pc ls st D' M R := by
  intro pc ls st D' M v h hv
  unfold lf98_0 at h
  by_cases hp0 : pc = 22
  · subst hp0
    rw [if_pos (show (22 : Nat) = 22 from rfl)] at h
    split at h
    · skip
      have hv : v = R := hv
      subst hv
      exact w98_22  h
    · cases h
  · rw [if_neg hp0] at h
    by_cases hp0 : pc = 58
    · subst hp0
      rw [if_pos (show (58 : Nat) = 58 from rfl)] at h
      split at h
      · skip
        have hv : v = R := hv
        subst hv
        exact w98_58  h
      · cases h
    · rw [if_neg hp0] at h
      by_cases hp0 : pc = 59
      · subst hp0
        rw [if_pos (show (59 : Nat) = 59 from rfl)] at h
        split at h
        · skip
          have hv : v = R := hv
          subst hv
          exact w98_59  h
        · cases h
      · rw [if_neg hp0] at h
        cases h
set_option maxRecDepth 20000 in
set_option maxHeartbeats 4000000 in
theorem we98 {l1 l2 : Int32} {D : sm_D} {M : sm_M} {R : sm_S} (h : jK_waitsFor l1 l2 D M = some R) : sm_WJ smT smCl smSa shC f98 2 0 [.ref 31, .int l1, .int l2] [] D M R := by
  have e : jK_waitsFor l1 l2 D M = (sm_run shC smSa cal98 c98 true (fun a D M => some (a, D, M)) (lf98_0 D) 37 (c98.drop 0) [.ref 31, .int l1, .int l2] [] D M : Option (sm_S)) := rfl
  exact sm_blk (ρ := sm_S) (gd := (fun v => v = R)) (kx := 98) (i := 0) smVC rfl (by decide) ck98 (fun a D M v e1 e2 => by cases e1; exact e2.symm) (ll98_0 D) rfl (e.symm.trans h) rfl
theorem m98 {l1 l2 : Int32} {D : sm_D} {M : sm_M} {R : sm_S} (h : jK_waitsFor l1 l2 D M = some R) : sm_MJ smT smCl smSa shC f98 2 [.ref 31, .int l1, .int l2] D M R :=
  sm_met (by decide) (Nat.le_of_ble_eq_true rfl) (List.all_eq_true.mp rfl) (we98  h)

