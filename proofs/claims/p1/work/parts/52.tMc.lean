-- jR_copy
def lh58_2 (p q L : Nat) (D : sm_D) (R : sm_S) (s : Int32 × Int32 × sm_M) : Prop := sm_WJ smT smCl smSa shM f58 0 2 [.ref p, .ref q, .int (s.1), .int (s.2.1)] [] D (s.2.2) R
def gd58_2 (p q L : Nat) (D : sm_D) (R : sm_S) (v : (Int32 × Int32 × sm_M) ⊕ sm_S) : Prop := match v with
  | .inl s => lh58_2 p q L D R s
  | .inr r => r = R
noncomputable def lf58_2 (p q L : Nat) (D : sm_D) : Nat → List Value → List Value → sm_D → sm_M → Option ((Int32 × Int32 × sm_M) ⊕ sm_S) := fun pc ls st D' M =>
  if pc = 2 then (match ls, st with
    | [.ref rl0, .ref rl1, .int bl2, .int bl3], [] => (sm_eqp rl0 p (sm_eqp rl1 q (sm_dq D' D (some (.inl (bl2, bl3, M))))))
    | _, _ => none)
  else none
theorem ll58_2 (p q L : Nat) (hg : [p, q, L] ∈ gY) (D : sm_D) {R : sm_S} : ∀ (pc : Nat) (ls st : List Value) (D' : sm_D) (M : sm_M) (v : (Int32 × Int32 × sm_M) ⊕ sm_S), (lf58_2 p q L D) pc ls st D' M = some v → (gd58_2 p q L D R) v → sm_WJ smT smCl smSa shM f58 0 pc ls st D' M R := by
  intro pc ls st D' M v h hv
  unfold lf58_2 at h
  by_cases hp0 : pc = 2
  · subst hp0
    rw [if_pos (show (2 : Nat) = 2 from rfl)] at h
    split at h
    · skip
      replace h := sm_eqp_inv h
      obtain ⟨he, h⟩ := h
      subst he
      replace h := sm_eqp_inv h
      obtain ⟨he, h⟩ := h
      subst he
      replace h := sm_dq_inv h
      obtain ⟨he, h⟩ := h
      subst he
      cases h
      exact hv
    · cases h
  · rw [if_neg hp0] at h
    cases h
set_option maxRecDepth 20000 in
set_option maxHeartbeats 4000000 in
theorem wc58_2 (p q L : Nat) (hg : [p, q, L] ∈ gY) (D : sm_D) {l2 l3 : Int32} {M : sm_M} {R : sm_S} {v : (Int32 × Int32 × sm_M) ⊕ sm_S} (h : jR_copy_2_c p q L l2 l3 D M = some v) (hv : (gd58_2 p q L D R) v) : sm_WJ smT smCl smSa shM f58 0 2 [.ref p, .ref q, .int l2, .int l3] [] D M R := by
  rcases gY_inv hg with ⟨rfl, rfl, rfl⟩ | ⟨rfl, rfl, rfl⟩ | ⟨rfl, rfl, rfl⟩ | ⟨rfl, rfl, rfl⟩ | ⟨rfl, rfl, rfl⟩ | ⟨rfl, rfl, rfl⟩ | ⟨rfl, rfl, rfl⟩ | ⟨rfl, rfl, rfl⟩ | ⟨rfl, rfl, rfl⟩ | ⟨rfl, rfl, rfl⟩ | ⟨rfl, rfl, rfl⟩ | ⟨rfl, rfl, rfl⟩ | ⟨rfl, rfl, rfl⟩ | ⟨rfl, rfl, rfl⟩
  · have e : jR_copy_2_c 29 54 301 l2 l3 D M = (sm_run shM smSa sm_nocal c58 false (fun a D M => some (.inr (a, D, M))) (lf58_2 29 54 301 D) 19 (c58.drop 2) [.ref 29, .ref 54, .int l2, .int l3] [] D M : Option ((Int32 × Int32 × sm_M) ⊕ sm_S)) := rfl
    exact sm_blk (ρ := (Int32 × Int32 × sm_M) ⊕ sm_S) (gd := (gd58_2 29 54 301 D R)) (kx := 58) (i := 2) smVM rfl (by decide) (sm_nocal_ok smT smCl smP smSa shM 0) (fun a D M v e1 e2 => by cases e1; exact e2.symm) (ll58_2 29 54 301 (by decide) D) rfl (e.symm.trans h) hv
  · have e : jR_copy_2_c 54 29 301 l2 l3 D M = (sm_run shM smSa sm_nocal c58 false (fun a D M => some (.inr (a, D, M))) (lf58_2 54 29 301 D) 19 (c58.drop 2) [.ref 54, .ref 29, .int l2, .int l3] [] D M : Option ((Int32 × Int32 × sm_M) ⊕ sm_S)) := rfl
    exact sm_blk (ρ := (Int32 × Int32 × sm_M) ⊕ sm_S) (gd := (gd58_2 54 29 301 D R)) (kx := 58) (i := 2) smVM rfl (by decide) (sm_nocal_ok smT smCl smP smSa shM 0) (fun a D M v e1 e2 => by cases e1; exact e2.symm) (ll58_2 54 29 301 (by decide) D) rfl (e.symm.trans h) hv
  · have e : jR_copy_2_c 30 55 301 l2 l3 D M = (sm_run shM smSa sm_nocal c58 false (fun a D M => some (.inr (a, D, M))) (lf58_2 30 55 301 D) 19 (c58.drop 2) [.ref 30, .ref 55, .int l2, .int l3] [] D M : Option ((Int32 × Int32 × sm_M) ⊕ sm_S)) := rfl
    exact sm_blk (ρ := (Int32 × Int32 × sm_M) ⊕ sm_S) (gd := (gd58_2 30 55 301 D R)) (kx := 58) (i := 2) smVM rfl (by decide) (sm_nocal_ok smT smCl smP smSa shM 0) (fun a D M v e1 e2 => by cases e1; exact e2.symm) (ll58_2 30 55 301 (by decide) D) rfl (e.symm.trans h) hv
  · have e : jR_copy_2_c 55 30 301 l2 l3 D M = (sm_run shM smSa sm_nocal c58 false (fun a D M => some (.inr (a, D, M))) (lf58_2 55 30 301 D) 19 (c58.drop 2) [.ref 55, .ref 30, .int l2, .int l3] [] D M : Option ((Int32 × Int32 × sm_M) ⊕ sm_S)) := rfl
    exact sm_blk (ρ := (Int32 × Int32 × sm_M) ⊕ sm_S) (gd := (gd58_2 55 30 301 D R)) (kx := 58) (i := 2) smVM rfl (by decide) (sm_nocal_ok smT smCl smP smSa shM 0) (fun a D M v e1 e2 => by cases e1; exact e2.symm) (ll58_2 55 30 301 (by decide) D) rfl (e.symm.trans h) hv
  · have e : jR_copy_2_c 31 56 301 l2 l3 D M = (sm_run shM smSa sm_nocal c58 false (fun a D M => some (.inr (a, D, M))) (lf58_2 31 56 301 D) 19 (c58.drop 2) [.ref 31, .ref 56, .int l2, .int l3] [] D M : Option ((Int32 × Int32 × sm_M) ⊕ sm_S)) := rfl
    exact sm_blk (ρ := (Int32 × Int32 × sm_M) ⊕ sm_S) (gd := (gd58_2 31 56 301 D R)) (kx := 58) (i := 2) smVM rfl (by decide) (sm_nocal_ok smT smCl smP smSa shM 0) (fun a D M v e1 e2 => by cases e1; exact e2.symm) (ll58_2 31 56 301 (by decide) D) rfl (e.symm.trans h) hv
  · have e : jR_copy_2_c 56 31 301 l2 l3 D M = (sm_run shM smSa sm_nocal c58 false (fun a D M => some (.inr (a, D, M))) (lf58_2 56 31 301 D) 19 (c58.drop 2) [.ref 56, .ref 31, .int l2, .int l3] [] D M : Option ((Int32 × Int32 × sm_M) ⊕ sm_S)) := rfl
    exact sm_blk (ρ := (Int32 × Int32 × sm_M) ⊕ sm_S) (gd := (gd58_2 56 31 301 D R)) (kx := 58) (i := 2) smVM rfl (by decide) (sm_nocal_ok smT smCl smP smSa shM 0) (fun a D M v e1 e2 => by cases e1; exact e2.symm) (ll58_2 56 31 301 (by decide) D) rfl (e.symm.trans h) hv
  · have e : jR_copy_2_c 32 57 301 l2 l3 D M = (sm_run shM smSa sm_nocal c58 false (fun a D M => some (.inr (a, D, M))) (lf58_2 32 57 301 D) 19 (c58.drop 2) [.ref 32, .ref 57, .int l2, .int l3] [] D M : Option ((Int32 × Int32 × sm_M) ⊕ sm_S)) := rfl
    exact sm_blk (ρ := (Int32 × Int32 × sm_M) ⊕ sm_S) (gd := (gd58_2 32 57 301 D R)) (kx := 58) (i := 2) smVM rfl (by decide) (sm_nocal_ok smT smCl smP smSa shM 0) (fun a D M v e1 e2 => by cases e1; exact e2.symm) (ll58_2 32 57 301 (by decide) D) rfl (e.symm.trans h) hv
  · have e : jR_copy_2_c 57 32 301 l2 l3 D M = (sm_run shM smSa sm_nocal c58 false (fun a D M => some (.inr (a, D, M))) (lf58_2 57 32 301 D) 19 (c58.drop 2) [.ref 57, .ref 32, .int l2, .int l3] [] D M : Option ((Int32 × Int32 × sm_M) ⊕ sm_S)) := rfl
    exact sm_blk (ρ := (Int32 × Int32 × sm_M) ⊕ sm_S) (gd := (gd58_2 57 32 301 D R)) (kx := 58) (i := 2) smVM rfl (by decide) (sm_nocal_ok smT smCl smP smSa shM 0) (fun a D M v e1 e2 => by cases e1; exact e2.symm) (ll58_2 57 32 301 (by decide) D) rfl (e.symm.trans h) hv
  · have e : jR_copy_2_c 33 58 41 l2 l3 D M = (sm_run shM smSa sm_nocal c58 false (fun a D M => some (.inr (a, D, M))) (lf58_2 33 58 41 D) 19 (c58.drop 2) [.ref 33, .ref 58, .int l2, .int l3] [] D M : Option ((Int32 × Int32 × sm_M) ⊕ sm_S)) := rfl
    exact sm_blk (ρ := (Int32 × Int32 × sm_M) ⊕ sm_S) (gd := (gd58_2 33 58 41 D R)) (kx := 58) (i := 2) smVM rfl (by decide) (sm_nocal_ok smT smCl smP smSa shM 0) (fun a D M v e1 e2 => by cases e1; exact e2.symm) (ll58_2 33 58 41 (by decide) D) rfl (e.symm.trans h) hv
  · have e : jR_copy_2_c 58 33 41 l2 l3 D M = (sm_run shM smSa sm_nocal c58 false (fun a D M => some (.inr (a, D, M))) (lf58_2 58 33 41 D) 19 (c58.drop 2) [.ref 58, .ref 33, .int l2, .int l3] [] D M : Option ((Int32 × Int32 × sm_M) ⊕ sm_S)) := rfl
    exact sm_blk (ρ := (Int32 × Int32 × sm_M) ⊕ sm_S) (gd := (gd58_2 58 33 41 D R)) (kx := 58) (i := 2) smVM rfl (by decide) (sm_nocal_ok smT smCl smP smSa shM 0) (fun a D M v e1 e2 => by cases e1; exact e2.symm) (ll58_2 58 33 41 (by decide) D) rfl (e.symm.trans h) hv
  · have e : jR_copy_2_c 34 59 41 l2 l3 D M = (sm_run shM smSa sm_nocal c58 false (fun a D M => some (.inr (a, D, M))) (lf58_2 34 59 41 D) 19 (c58.drop 2) [.ref 34, .ref 59, .int l2, .int l3] [] D M : Option ((Int32 × Int32 × sm_M) ⊕ sm_S)) := rfl
    exact sm_blk (ρ := (Int32 × Int32 × sm_M) ⊕ sm_S) (gd := (gd58_2 34 59 41 D R)) (kx := 58) (i := 2) smVM rfl (by decide) (sm_nocal_ok smT smCl smP smSa shM 0) (fun a D M v e1 e2 => by cases e1; exact e2.symm) (ll58_2 34 59 41 (by decide) D) rfl (e.symm.trans h) hv
  · have e : jR_copy_2_c 59 34 41 l2 l3 D M = (sm_run shM smSa sm_nocal c58 false (fun a D M => some (.inr (a, D, M))) (lf58_2 59 34 41 D) 19 (c58.drop 2) [.ref 59, .ref 34, .int l2, .int l3] [] D M : Option ((Int32 × Int32 × sm_M) ⊕ sm_S)) := rfl
    exact sm_blk (ρ := (Int32 × Int32 × sm_M) ⊕ sm_S) (gd := (gd58_2 59 34 41 D R)) (kx := 58) (i := 2) smVM rfl (by decide) (sm_nocal_ok smT smCl smP smSa shM 0) (fun a D M v e1 e2 => by cases e1; exact e2.symm) (ll58_2 59 34 41 (by decide) D) rfl (e.symm.trans h) hv
  · have e : jR_copy_2_c 35 60 123 l2 l3 D M = (sm_run shM smSa sm_nocal c58 false (fun a D M => some (.inr (a, D, M))) (lf58_2 35 60 123 D) 19 (c58.drop 2) [.ref 35, .ref 60, .int l2, .int l3] [] D M : Option ((Int32 × Int32 × sm_M) ⊕ sm_S)) := rfl
    exact sm_blk (ρ := (Int32 × Int32 × sm_M) ⊕ sm_S) (gd := (gd58_2 35 60 123 D R)) (kx := 58) (i := 2) smVM rfl (by decide) (sm_nocal_ok smT smCl smP smSa shM 0) (fun a D M v e1 e2 => by cases e1; exact e2.symm) (ll58_2 35 60 123 (by decide) D) rfl (e.symm.trans h) hv
  · have e : jR_copy_2_c 60 35 123 l2 l3 D M = (sm_run shM smSa sm_nocal c58 false (fun a D M => some (.inr (a, D, M))) (lf58_2 60 35 123 D) 19 (c58.drop 2) [.ref 60, .ref 35, .int l2, .int l3] [] D M : Option ((Int32 × Int32 × sm_M) ⊕ sm_S)) := rfl
    exact sm_blk (ρ := (Int32 × Int32 × sm_M) ⊕ sm_S) (gd := (gd58_2 60 35 123 D R)) (kx := 58) (i := 2) smVM rfl (by decide) (sm_nocal_ok smT smCl smP smSa shM 0) (fun a D M v e1 e2 => by cases e1; exact e2.symm) (ll58_2 60 35 123 (by decide) D) rfl (e.symm.trans h) hv
theorem w58_2 (p q L : Nat) (hg : [p, q, L] ∈ gY) {l2 l3 : Int32} {D : sm_D} {M : sm_M} {R : sm_S} (h : jR_copy_2 p q L l2 l3 D M = some R) : sm_WJ smT smCl smSa shM f58 0 2 [.ref p, .ref q, .int l2, .int l3] [] D M R := by
  have hh : lh58_2 p q L D R (l2, l3, M) := by
    refine sm_lp_ind (b := jR_copy_2_b p q L D) (r := R) (lh58_2 p q L D R) ?_ h
    intro s v hb h1 h2
    obtain ⟨z0, z1, M1⟩ := s
    have hv : gd58_2 p q L D R v := by
      cases v with
      | inl s' => exact h1 s' rfl
      | inr r => exact h2 r rfl
    exact wc58_2 p q L hg D hb hv
  exact hh
noncomputable def lf58_0 (p q L : Nat) (D : sm_D) : Nat → List Value → List Value → sm_D → sm_M → Option (sm_S) := fun pc ls st D' M =>
  if pc = 2 then (match ls, st with
    | [.ref rl0, .ref rl1, .int bl2, .int bl3], [] => (sm_eqp rl0 p (sm_eqp rl1 q (jR_copy_2 p q L bl2 bl3 D' M)))
    | _, _ => none)
  else none
theorem ll58_0 (p q L : Nat) (hg : [p, q, L] ∈ gY) (D : sm_D) {R : sm_S} : ∀ (pc : Nat) (ls st : List Value) (D' : sm_D) (M : sm_M) (v : sm_S), (lf58_0 p q L D) pc ls st D' M = some v → (fun v => v = R) v → sm_WJ smT smCl smSa shM f58 0 pc ls st D' M R := by
  intro pc ls st D' M v h hv
  unfold lf58_0 at h
  by_cases hp0 : pc = 2
  · subst hp0
    rw [if_pos (show (2 : Nat) = 2 from rfl)] at h
    split at h
    · skip
      replace h := sm_eqp_inv h
      obtain ⟨he, h⟩ := h
      subst he
      replace h := sm_eqp_inv h
      obtain ⟨he, h⟩ := h
      subst he
      have hv : v = R := hv
      subst hv
      exact w58_2 _ _ _ hg h
    · cases h
  · rw [if_neg hp0] at h
    cases h
set_option maxRecDepth 20000 in
set_option maxHeartbeats 4000000 in
theorem we58 (p q L : Nat) (hg : [p, q, L] ∈ gY) {l2 : Int32} {D : sm_D} {M : sm_M} {R : sm_S} (h : jR_copy p q L l2 D M = some R) : sm_WJ smT smCl smSa shM f58 0 0 [.ref p, .ref q, .int l2, .retAddr 0] [] D M R := by
  rcases gY_inv hg with ⟨rfl, rfl, rfl⟩ | ⟨rfl, rfl, rfl⟩ | ⟨rfl, rfl, rfl⟩ | ⟨rfl, rfl, rfl⟩ | ⟨rfl, rfl, rfl⟩ | ⟨rfl, rfl, rfl⟩ | ⟨rfl, rfl, rfl⟩ | ⟨rfl, rfl, rfl⟩ | ⟨rfl, rfl, rfl⟩ | ⟨rfl, rfl, rfl⟩ | ⟨rfl, rfl, rfl⟩ | ⟨rfl, rfl, rfl⟩ | ⟨rfl, rfl, rfl⟩ | ⟨rfl, rfl, rfl⟩
  · have e : jR_copy 29 54 301 l2 D M = (sm_run shM smSa sm_nocal c58 false (fun a D M => some (a, D, M)) (lf58_0 29 54 301 D) 19 (c58.drop 0) [.ref 29, .ref 54, .int l2, .retAddr 0] [] D M : Option (sm_S)) := rfl
    exact sm_blk (ρ := sm_S) (gd := (fun v => v = R)) (kx := 58) (i := 0) smVM rfl (by decide) (sm_nocal_ok smT smCl smP smSa shM 0) (fun a D M v e1 e2 => by cases e1; exact e2.symm) (ll58_0 29 54 301 (by decide) D) rfl (e.symm.trans h) rfl
  · have e : jR_copy 54 29 301 l2 D M = (sm_run shM smSa sm_nocal c58 false (fun a D M => some (a, D, M)) (lf58_0 54 29 301 D) 19 (c58.drop 0) [.ref 54, .ref 29, .int l2, .retAddr 0] [] D M : Option (sm_S)) := rfl
    exact sm_blk (ρ := sm_S) (gd := (fun v => v = R)) (kx := 58) (i := 0) smVM rfl (by decide) (sm_nocal_ok smT smCl smP smSa shM 0) (fun a D M v e1 e2 => by cases e1; exact e2.symm) (ll58_0 54 29 301 (by decide) D) rfl (e.symm.trans h) rfl
  · have e : jR_copy 30 55 301 l2 D M = (sm_run shM smSa sm_nocal c58 false (fun a D M => some (a, D, M)) (lf58_0 30 55 301 D) 19 (c58.drop 0) [.ref 30, .ref 55, .int l2, .retAddr 0] [] D M : Option (sm_S)) := rfl
    exact sm_blk (ρ := sm_S) (gd := (fun v => v = R)) (kx := 58) (i := 0) smVM rfl (by decide) (sm_nocal_ok smT smCl smP smSa shM 0) (fun a D M v e1 e2 => by cases e1; exact e2.symm) (ll58_0 30 55 301 (by decide) D) rfl (e.symm.trans h) rfl
  · have e : jR_copy 55 30 301 l2 D M = (sm_run shM smSa sm_nocal c58 false (fun a D M => some (a, D, M)) (lf58_0 55 30 301 D) 19 (c58.drop 0) [.ref 55, .ref 30, .int l2, .retAddr 0] [] D M : Option (sm_S)) := rfl
    exact sm_blk (ρ := sm_S) (gd := (fun v => v = R)) (kx := 58) (i := 0) smVM rfl (by decide) (sm_nocal_ok smT smCl smP smSa shM 0) (fun a D M v e1 e2 => by cases e1; exact e2.symm) (ll58_0 55 30 301 (by decide) D) rfl (e.symm.trans h) rfl
  · have e : jR_copy 31 56 301 l2 D M = (sm_run shM smSa sm_nocal c58 false (fun a D M => some (a, D, M)) (lf58_0 31 56 301 D) 19 (c58.drop 0) [.ref 31, .ref 56, .int l2, .retAddr 0] [] D M : Option (sm_S)) := rfl
    exact sm_blk (ρ := sm_S) (gd := (fun v => v = R)) (kx := 58) (i := 0) smVM rfl (by decide) (sm_nocal_ok smT smCl smP smSa shM 0) (fun a D M v e1 e2 => by cases e1; exact e2.symm) (ll58_0 31 56 301 (by decide) D) rfl (e.symm.trans h) rfl
  · have e : jR_copy 56 31 301 l2 D M = (sm_run shM smSa sm_nocal c58 false (fun a D M => some (a, D, M)) (lf58_0 56 31 301 D) 19 (c58.drop 0) [.ref 56, .ref 31, .int l2, .retAddr 0] [] D M : Option (sm_S)) := rfl
    exact sm_blk (ρ := sm_S) (gd := (fun v => v = R)) (kx := 58) (i := 0) smVM rfl (by decide) (sm_nocal_ok smT smCl smP smSa shM 0) (fun a D M v e1 e2 => by cases e1; exact e2.symm) (ll58_0 56 31 301 (by decide) D) rfl (e.symm.trans h) rfl
  · have e : jR_copy 32 57 301 l2 D M = (sm_run shM smSa sm_nocal c58 false (fun a D M => some (a, D, M)) (lf58_0 32 57 301 D) 19 (c58.drop 0) [.ref 32, .ref 57, .int l2, .retAddr 0] [] D M : Option (sm_S)) := rfl
    exact sm_blk (ρ := sm_S) (gd := (fun v => v = R)) (kx := 58) (i := 0) smVM rfl (by decide) (sm_nocal_ok smT smCl smP smSa shM 0) (fun a D M v e1 e2 => by cases e1; exact e2.symm) (ll58_0 32 57 301 (by decide) D) rfl (e.symm.trans h) rfl
  · have e : jR_copy 57 32 301 l2 D M = (sm_run shM smSa sm_nocal c58 false (fun a D M => some (a, D, M)) (lf58_0 57 32 301 D) 19 (c58.drop 0) [.ref 57, .ref 32, .int l2, .retAddr 0] [] D M : Option (sm_S)) := rfl
    exact sm_blk (ρ := sm_S) (gd := (fun v => v = R)) (kx := 58) (i := 0) smVM rfl (by decide) (sm_nocal_ok smT smCl smP smSa shM 0) (fun a D M v e1 e2 => by cases e1; exact e2.symm) (ll58_0 57 32 301 (by decide) D) rfl (e.symm.trans h) rfl
  · have e : jR_copy 33 58 41 l2 D M = (sm_run shM smSa sm_nocal c58 false (fun a D M => some (a, D, M)) (lf58_0 33 58 41 D) 19 (c58.drop 0) [.ref 33, .ref 58, .int l2, .retAddr 0] [] D M : Option (sm_S)) := rfl
    exact sm_blk (ρ := sm_S) (gd := (fun v => v = R)) (kx := 58) (i := 0) smVM rfl (by decide) (sm_nocal_ok smT smCl smP smSa shM 0) (fun a D M v e1 e2 => by cases e1; exact e2.symm) (ll58_0 33 58 41 (by decide) D) rfl (e.symm.trans h) rfl
  · have e : jR_copy 58 33 41 l2 D M = (sm_run shM smSa sm_nocal c58 false (fun a D M => some (a, D, M)) (lf58_0 58 33 41 D) 19 (c58.drop 0) [.ref 58, .ref 33, .int l2, .retAddr 0] [] D M : Option (sm_S)) := rfl
    exact sm_blk (ρ := sm_S) (gd := (fun v => v = R)) (kx := 58) (i := 0) smVM rfl (by decide) (sm_nocal_ok smT smCl smP smSa shM 0) (fun a D M v e1 e2 => by cases e1; exact e2.symm) (ll58_0 58 33 41 (by decide) D) rfl (e.symm.trans h) rfl
  · have e : jR_copy 34 59 41 l2 D M = (sm_run shM smSa sm_nocal c58 false (fun a D M => some (a, D, M)) (lf58_0 34 59 41 D) 19 (c58.drop 0) [.ref 34, .ref 59, .int l2, .retAddr 0] [] D M : Option (sm_S)) := rfl
    exact sm_blk (ρ := sm_S) (gd := (fun v => v = R)) (kx := 58) (i := 0) smVM rfl (by decide) (sm_nocal_ok smT smCl smP smSa shM 0) (fun a D M v e1 e2 => by cases e1; exact e2.symm) (ll58_0 34 59 41 (by decide) D) rfl (e.symm.trans h) rfl
  · have e : jR_copy 59 34 41 l2 D M = (sm_run shM smSa sm_nocal c58 false (fun a D M => some (a, D, M)) (lf58_0 59 34 41 D) 19 (c58.drop 0) [.ref 59, .ref 34, .int l2, .retAddr 0] [] D M : Option (sm_S)) := rfl
    exact sm_blk (ρ := sm_S) (gd := (fun v => v = R)) (kx := 58) (i := 0) smVM rfl (by decide) (sm_nocal_ok smT smCl smP smSa shM 0) (fun a D M v e1 e2 => by cases e1; exact e2.symm) (ll58_0 59 34 41 (by decide) D) rfl (e.symm.trans h) rfl
  · have e : jR_copy 35 60 123 l2 D M = (sm_run shM smSa sm_nocal c58 false (fun a D M => some (a, D, M)) (lf58_0 35 60 123 D) 19 (c58.drop 0) [.ref 35, .ref 60, .int l2, .retAddr 0] [] D M : Option (sm_S)) := rfl
    exact sm_blk (ρ := sm_S) (gd := (fun v => v = R)) (kx := 58) (i := 0) smVM rfl (by decide) (sm_nocal_ok smT smCl smP smSa shM 0) (fun a D M v e1 e2 => by cases e1; exact e2.symm) (ll58_0 35 60 123 (by decide) D) rfl (e.symm.trans h) rfl
  · have e : jR_copy 60 35 123 l2 D M = (sm_run shM smSa sm_nocal c58 false (fun a D M => some (a, D, M)) (lf58_0 60 35 123 D) 19 (c58.drop 0) [.ref 60, .ref 35, .int l2, .retAddr 0] [] D M : Option (sm_S)) := rfl
    exact sm_blk (ρ := sm_S) (gd := (fun v => v = R)) (kx := 58) (i := 0) smVM rfl (by decide) (sm_nocal_ok smT smCl smP smSa shM 0) (fun a D M v e1 e2 => by cases e1; exact e2.symm) (ll58_0 60 35 123 (by decide) D) rfl (e.symm.trans h) rfl
theorem m58 {p q L : Nat} (hg : [p, q, L] ∈ gY) {l2 : Int32} {D : sm_D} {M : sm_M} {R : sm_S} (h : jR_copy p q L l2 D M = some R) : sm_MJ smT smCl smSa shM f58 0 [.ref p, .ref q, .int l2] D M R :=
  sm_met (by decide) (Nat.le_of_ble_eq_true rfl) (List.all_eq_true.mp rfl) (we58 p q L hg h)

-- jR_keep
noncomputable def cal59  : sm_Cal := fun x as D M =>
  if x = 58 then (match as with
    | [.ref q0, .ref q1, .int a2] => (sm_lng shM q0 (fun L => sm_ga [q0, q1, L] gY (jR_copy q0 q1 L a2 D M)))
    | _ => none)
  else none
theorem ck59  : sm_CalOk smT smCl smP smSa shM 1 cal59 := by
  intro x g as D M R hx h
  unfold cal59 at h
  by_cases hx' : x = 58
  · subst hx'
    rw [if_pos (show (58 : Nat) = 58 from rfl)] at h
    cases (show smP[58]? = some f58 from rfl).symm.trans hx
    split at h
    · replace h := sm_lng_inv h
      obtain ⟨L, h⟩ := h
      replace h := sm_ga_inv h
      obtain ⟨h1, h⟩ := h
      exact Or.inl ⟨0, by omega, m58  h1 h⟩
    · cases h
  · rw [if_neg hx'] at h
    cases h
set_option maxRecDepth 20000 in
set_option maxHeartbeats 4000000 in
theorem we59_0 {D : sm_D} {M : sm_M} {R : sm_S} (h : jR_keep0 D M = some R) : sm_WJ smT smCl smSa shM f59 1 0 [.ref 1, .int (0 : Int32)] [] D M R := by
  have e : jR_keep0 D M = (sm_run shM smSa cal59 c59 false (fun a D M => some (a, D, M)) sm_noleaf 118 c59 [.ref 1, .int (0 : Int32)] [] D M : Option sm_S) := rfl
  exact sm_blk (ρ := sm_S) (gd := (fun v => v = R)) (kx := 59) (i := 0) smVM rfl (by decide) ck59 (fun a D M v e1 e2 => by cases e1; exact e2.symm) sm_noleaf_ok rfl (e.symm.trans h) rfl
set_option maxRecDepth 20000 in
set_option maxHeartbeats 4000000 in
theorem we59_1 {D : sm_D} {M : sm_M} {R : sm_S} (h : jR_keep1 D M = some R) : sm_WJ smT smCl smSa shM f59 1 0 [.ref 1, .int (1 : Int32)] [] D M R := by
  have e : jR_keep1 D M = (sm_run shM smSa cal59 c59 false (fun a D M => some (a, D, M)) sm_noleaf 118 c59 [.ref 1, .int (1 : Int32)] [] D M : Option sm_S) := rfl
  exact sm_blk (ρ := sm_S) (gd := (fun v => v = R)) (kx := 59) (i := 0) smVM rfl (by decide) ck59 (fun a D M v e1 e2 => by cases e1; exact e2.symm) sm_noleaf_ok rfl (e.symm.trans h) rfl
theorem m59 {l1 : Int32} {D : sm_D} {M : sm_M} {R : sm_S} (h : jR_keep l1 D M = some R) : sm_MJ smT smCl smSa shM f59 1 [.ref 1, .int l1] D M R := by
  unfold jR_keep at h
  split at h
  · rename_i hl
    subst hl
    exact sm_met (by decide) (Nat.le_of_ble_eq_true rfl) (List.all_eq_true.mp rfl) (we59_0 h)
  · split at h
    · rename_i hl
      subst hl
      exact sm_met (by decide) (Nat.le_of_ble_eq_true rfl) (List.all_eq_true.mp rfl) (we59_1 h)
    · cases h

-- jR_restart
def lh79_12 (D : sm_D) (R : sm_S) (s : Int32 × sm_M) : Prop := sm_WJ smT smCl smSa shM f79 0 12 [.ref 1, .int (s.1)] [] D (s.2) R
def gd79_12 (D : sm_D) (R : sm_S) (v : (Int32 × sm_M) ⊕ sm_S) : Prop := match v with
  | .inl s => lh79_12 D R s
  | .inr r => r = R
noncomputable def lf79_33 (D : sm_D) : Nat → List Value → List Value → sm_D → sm_M → Option ((Int32 × sm_M) ⊕ sm_S) := fun pc ls st D' M =>
  if pc = 12 then (match ls, st with
    | [.ref 1, .int bl1], [] => (sm_dq D' D (some (.inl (bl1, M))))
    | _, _ => none)
  else none
theorem ll79_33 (D : sm_D) {R : sm_S} : ∀ (pc : Nat) (ls st : List Value) (D' : sm_D) (M : sm_M) (v : (Int32 × sm_M) ⊕ sm_S), (lf79_33 D) pc ls st D' M = some v → (gd79_12 D R) v → sm_WJ smT smCl smSa shM f79 0 pc ls st D' M R := by
  intro pc ls st D' M v h hv
  unfold lf79_33 at h
  by_cases hp0 : pc = 12
  · subst hp0
    rw [if_pos (show (12 : Nat) = 12 from rfl)] at h
    split at h
    · skip
      replace h := sm_dq_inv h
      obtain ⟨he, h⟩ := h
      subst he
      cases h
      exact hv
    · cases h
  · rw [if_neg hp0] at h
    cases h
set_option maxRecDepth 20000 in
set_option maxHeartbeats 4000000 in
theorem w79_33 (D : sm_D) {l1 s1 s2 : Int32} {M : sm_M} {R : sm_S} {v : (Int32 × sm_M) ⊕ sm_S} (h : jR_restart_33 l1 s1 s2 D M = some v) (hv : (gd79_12 D R) v) : sm_WJ smT smCl smSa shM f79 0 33 [.ref 1, .int l1] [.int s2, .int s1, .ref 47] D M R := by
  have e : jR_restart_33 l1 s1 s2 D M = (sm_run shM smSa sm_nocal c79 false (fun a D M => some (.inr (a, D, M))) (lf79_33 D) 40 (c79.drop 20) [.ref 1, .int l1] [.int s2, .int s1, .ref 47] D M : Option ((Int32 × sm_M) ⊕ sm_S)) := rfl
  exact sm_blk (ρ := (Int32 × sm_M) ⊕ sm_S) (gd := (gd79_12 D R)) (kx := 79) (i := 20) smVM rfl (by decide) (sm_nocal_ok smT smCl smP smSa shM 0) (fun a D M v e1 e2 => by cases e1; exact e2.symm) (ll79_33 D) rfl (e.symm.trans h) hv
noncomputable def lf79_12 (D : sm_D) : Nat → List Value → List Value → sm_D → sm_M → Option ((Int32 × sm_M) ⊕ sm_S) := fun pc ls st D' M =>
  if pc = 33 then (match ls, st with
    | [.ref 1, .int bl1], [.int bs2, .int bs1, .ref 47] => (sm_dq D' D (jR_restart_33 bl1 bs1 bs2 D' M))
    | _, _ => none)
  else none
theorem ll79_12 (D : sm_D) {R : sm_S} : ∀ (pc : Nat) (ls st : List Value) (D' : sm_D) (M : sm_M) (v : (Int32 × sm_M) ⊕ sm_S), (lf79_12 D) pc ls st D' M = some v → (gd79_12 D R) v → sm_WJ smT smCl smSa shM f79 0 pc ls st D' M R := by
  intro pc ls st D' M v h hv
  unfold lf79_12 at h
  by_cases hp0 : pc = 33
  · subst hp0
    rw [if_pos (show (33 : Nat) = 33 from rfl)] at h
    split at h
    · skip
      replace h := sm_dq_inv h
      obtain ⟨he, h⟩ := h
      subst he
      exact w79_33 _ h hv
    · cases h
  · rw [if_neg hp0] at h
    cases h
set_option maxRecDepth 20000 in
set_option maxHeartbeats 4000000 in
theorem wc79_12 (D : sm_D) {l1 : Int32} {M : sm_M} {R : sm_S} {v : (Int32 × sm_M) ⊕ sm_S} (h : jR_restart_12_c l1 D M = some v) (hv : (gd79_12 D R) v) : sm_WJ smT smCl smSa shM f79 0 12 [.ref 1, .int l1] [] D M R := by
  have e : jR_restart_12_c l1 D M = (sm_run shM smSa sm_nocal c79 false (fun a D M => some (.inr (a, D, M))) (lf79_12 D) 40 (c79.drop 8) [.ref 1, .int l1] [] D M : Option ((Int32 × sm_M) ⊕ sm_S)) := rfl
  exact sm_blk (ρ := (Int32 × sm_M) ⊕ sm_S) (gd := (gd79_12 D R)) (kx := 79) (i := 8) smVM rfl (by decide) (sm_nocal_ok smT smCl smP smSa shM 0) (fun a D M v e1 e2 => by cases e1; exact e2.symm) (ll79_12 D) rfl (e.symm.trans h) hv
theorem w79_12 {l1 : Int32} {D : sm_D} {M : sm_M} {R : sm_S} (h : jR_restart_12 l1 D M = some R) : sm_WJ smT smCl smSa shM f79 0 12 [.ref 1, .int l1] [] D M R := by
  have hh : lh79_12 D R (l1, M) := by
    refine sm_lp_ind (b := jR_restart_12_b D) (r := R) (lh79_12 D R) ?_ h
    intro s v hb h1 h2
    obtain ⟨z0, M1⟩ := s
    have hv : gd79_12 D R v := by
      cases v with
      | inl s' => exact h1 s' rfl
      | inr r => exact h2 r rfl
    exact wc79_12 D hb hv
  exact hh
noncomputable def lf79_0 (D : sm_D) : Nat → List Value → List Value → sm_D → sm_M → Option (sm_S) := fun pc ls st D' M =>
  if pc = 12 then (match ls, st with
    | [.ref 1, .int bl1], [] => (jR_restart_12 bl1 D' M)
    | _, _ => none)
  else none
theorem ll79_0 (D : sm_D) {R : sm_S} : ∀ (pc : Nat) (ls st : List Value) (D' : sm_D) (M : sm_M) (v : sm_S), (lf79_0 D) pc ls st D' M = some v → (fun v => v = R) v → sm_WJ smT smCl smSa shM f79 0 pc ls st D' M R := by
  intro pc ls st D' M v h hv
  unfold lf79_0 at h
  by_cases hp0 : pc = 12
  · subst hp0
    rw [if_pos (show (12 : Nat) = 12 from rfl)] at h
    split at h
    · skip
      have hv : v = R := hv
      subst hv
      exact w79_12  h
    · cases h
  · rw [if_neg hp0] at h
    cases h
set_option maxRecDepth 20000 in
set_option maxHeartbeats 4000000 in
theorem we79 {D : sm_D} {M : sm_M} {R : sm_S} (h : jR_restart D M = some R) : sm_WJ smT smCl smSa shM f79 0 0 [.ref 1, .retAddr 0] [] D M R := by
  have e : jR_restart D M = (sm_run shM smSa sm_nocal c79 false (fun a D M => some (a, D, M)) (lf79_0 D) 40 (c79.drop 0) [.ref 1, .retAddr 0] [] D M : Option (sm_S)) := rfl
  exact sm_blk (ρ := sm_S) (gd := (fun v => v = R)) (kx := 79) (i := 0) smVM rfl (by decide) (sm_nocal_ok smT smCl smP smSa shM 0) (fun a D M v e1 e2 => by cases e1; exact e2.symm) (ll79_0 D) rfl (e.symm.trans h) rfl
theorem m79 {D : sm_D} {M : sm_M} {R : sm_S} (h : jR_restart D M = some R) : sm_MJ smT smCl smSa shM f79 0 [.ref 1] D M R :=
  sm_met (by decide) (Nat.le_of_ble_eq_true rfl) (List.all_eq_true.mp rfl) (we79  h)

-- jR_compile
noncomputable def cal60  : sm_Cal := fun x as D M =>
  if x = 24 then (match as with
    | [.ref 1, .int a1] => (jR_isExpression a1 D M)
    | _ => none)
  else if x = 16 then (match as with
    | [.ref 1, .int a1] => (jR_refuse a1 D M)
    | _ => none)
  else if x = 30 then (match as with
    | [.ref 1, .int a1] => (jR_isProgram a1 D M)
    | _ => none)
  else if x = 59 then (match as with
    | [.ref 1, .int a1] => (jR_keep a1 D M)
    | _ => none)
  else if x = 57 then (match as with
    | [.ref 1, .int a1] => (jR_writeProgram a1 D M)
    | _ => none)
  else if x = 20 then (match as with
    | [.ref 1, .int a1] => (jR_numberOf a1 D M)
    | _ => none)
  else if x = 18 then (match as with
    | [.ref 1, .int a1, .int a2, .int a3, .int a4] => (jR_find a1 a2 a3 a4 D M)
    | _ => none)
  else if x = 79 then (match as with
    | [.ref 1] => (jR_restart D M)
    | _ => none)
  else none
theorem ck60  : sm_CalOk smT smCl smP smSa shM 8 cal60 := by
  intro x g as D M R hx h
  unfold cal60 at h
  by_cases hx' : x = 24
  · subst hx'
    rw [if_pos (show (24 : Nat) = 24 from rfl)] at h
    cases (show smP[24]? = some f24 from rfl).symm.trans hx
    split at h
    · skip
      exact Or.inl ⟨0, by omega, m24   h⟩
    · cases h
  · rw [if_neg hx'] at h
    by_cases hx' : x = 16
    · subst hx'
      rw [if_pos (show (16 : Nat) = 16 from rfl)] at h
      cases (show smP[16]? = some f16 from rfl).symm.trans hx
      split at h
      · skip
        exact Or.inl ⟨0, by omega, m16   h⟩
      · cases h
    · rw [if_neg hx'] at h
      by_cases hx' : x = 30
      · subst hx'
        rw [if_pos (show (30 : Nat) = 30 from rfl)] at h
        cases (show smP[30]? = some f30 from rfl).symm.trans hx
        split at h
        · skip
          exact Or.inl ⟨4, by omega, m30   h⟩
        · cases h
      · rw [if_neg hx'] at h
        by_cases hx' : x = 59
        · subst hx'
          rw [if_pos (show (59 : Nat) = 59 from rfl)] at h
          cases (show smP[59]? = some f59 from rfl).symm.trans hx
          split at h
          · skip
            exact Or.inl ⟨1, by omega, m59   h⟩
          · cases h
        · rw [if_neg hx'] at h
          by_cases hx' : x = 57
          · subst hx'
            rw [if_pos (show (57 : Nat) = 57 from rfl)] at h
            cases (show smP[57]? = some f57 from rfl).symm.trans hx
            split at h
            · skip
              exact Or.inl ⟨7, by omega, m57   h⟩
            · cases h
          · rw [if_neg hx'] at h
            by_cases hx' : x = 20
            · subst hx'
              rw [if_pos (show (20 : Nat) = 20 from rfl)] at h
              cases (show smP[20]? = some f20 from rfl).symm.trans hx
              split at h
              · skip
                exact Or.inl ⟨0, by omega, m20   h⟩
              · cases h
            · rw [if_neg hx'] at h
              by_cases hx' : x = 18
              · subst hx'
                rw [if_pos (show (18 : Nat) = 18 from rfl)] at h
                cases (show smP[18]? = some f18 from rfl).symm.trans hx
                split at h
                · skip
                  exact Or.inl ⟨1, by omega, m18   h⟩
                · cases h
              · rw [if_neg hx'] at h
                by_cases hx' : x = 79
                · subst hx'
                  rw [if_pos (show (79 : Nat) = 79 from rfl)] at h
                  cases (show smP[79]? = some f79 from rfl).symm.trans hx
                  split at h
                  · skip
                    exact Or.inl ⟨0, by omega, m79   h⟩
                  · cases h
                · rw [if_neg hx'] at h
                  cases h
def lh60_85 (D : sm_D) (R : sm_S) (s : Int32 × Int32 × sm_M) : Prop := ∀ (g2 g3 : Value), sm_WJ smT smCl smSa shM f60 8 85 [.ref 1, .int (s.1), g2, g3, .int (s.2.1)] [] D (s.2.2) R
def gd60_85 (D : sm_D) (R : sm_S) (v : (Int32 × Int32 × sm_M) ⊕ sm_S) : Prop := match v with
  | .inl s => lh60_85 D R s
  | .inr r => r = R
noncomputable def lf60_85 (D : sm_D) : Nat → List Value → List Value → sm_D → sm_M → Option ((Int32 × Int32 × sm_M) ⊕ sm_S) := fun pc ls st D' M =>
  if pc = 85 then (match ls, st with
    | [.ref 1, .int bl1, gl2, gl3, .int bl4], [] => (sm_dq D' D (some (.inl (bl1, bl4, M))))
    | _, _ => none)
  else none
theorem ll60_85 (D : sm_D) {R : sm_S} : ∀ (pc : Nat) (ls st : List Value) (D' : sm_D) (M : sm_M) (v : (Int32 × Int32 × sm_M) ⊕ sm_S), (lf60_85 D) pc ls st D' M = some v → (gd60_85 D R) v → sm_WJ smT smCl smSa shM f60 8 pc ls st D' M R := by
  intro pc ls st D' M v h hv
  unfold lf60_85 at h
  by_cases hp0 : pc = 85
  · subst hp0
    rw [if_pos (show (85 : Nat) = 85 from rfl)] at h
    split at h
    · skip
      replace h := sm_dq_inv h
      obtain ⟨he, h⟩ := h
      subst he
      cases h
      exact hv _ _
    · cases h
  · rw [if_neg hp0] at h
    cases h
set_option maxRecDepth 20000 in
set_option maxHeartbeats 4000000 in
theorem wc60_85 (D : sm_D) {l1 l4 : Int32} {g2 g3 : Value} {M : sm_M} {R : sm_S} {v : (Int32 × Int32 × sm_M) ⊕ sm_S} (h : jR_compile_85_c l1 l4 D M = some v) (hv : (gd60_85 D R) v) : sm_WJ smT smCl smSa shM f60 8 85 [.ref 1, .int l1, g2, g3, .int l4] [] D M R := by
  have e : jR_compile_85_c l1 l4 D M = (sm_run shM smSa cal60 c60 false (fun a D M => some (.inr (a, D, M))) (lf60_85 D) 105 (c60.drop 50) [.ref 1, .int l1, g2, g3, .int l4] [] D M : Option ((Int32 × Int32 × sm_M) ⊕ sm_S)) := rfl
  exact sm_blk (ρ := (Int32 × Int32 × sm_M) ⊕ sm_S) (gd := (gd60_85 D R)) (kx := 60) (i := 50) smVM rfl (by decide) ck60 (fun a D M v e1 e2 => by cases e1; exact e2.symm) (ll60_85 D) rfl (e.symm.trans h) hv
theorem w60_85 {l1 l4 : Int32} {g2 g3 : Value} {D : sm_D} {M : sm_M} {R : sm_S} (h : jR_compile_85 l1 l4 D M = some R) : sm_WJ smT smCl smSa shM f60 8 85 [.ref 1, .int l1, g2, g3, .int l4] [] D M R := by
  have hh : lh60_85 D R (l1, l4, M) := by
    refine sm_lp_ind (b := jR_compile_85_b D) (r := R) (lh60_85 D R) ?_ h
    intro s v hb h1 h2
    obtain ⟨z0, z1, M1⟩ := s
    have hv : gd60_85 D R v := by
      cases v with
      | inl s' => exact h1 s' rfl
      | inr r => exact h2 r rfl
    intro g2 g3
    exact wc60_85 D hb hv
  exact hh _ _
noncomputable def lf60_0 (D : sm_D) : Nat → List Value → List Value → sm_D → sm_M → Option (sm_S) := fun pc ls st D' M =>
  if pc = 85 then (match ls, st with
    | [.ref 1, .int bl1, gl2, gl3, .int bl4], [] => (jR_compile_85 bl1 bl4 D' M)
    | _, _ => none)
  else none
theorem ll60_0 (D : sm_D) {R : sm_S} : ∀ (pc : Nat) (ls st : List Value) (D' : sm_D) (M : sm_M) (v : sm_S), (lf60_0 D) pc ls st D' M = some v → (fun v => v = R) v → sm_WJ smT smCl smSa shM f60 8 pc ls st D' M R := by
  intro pc ls st D' M v h hv
  unfold lf60_0 at h
  by_cases hp0 : pc = 85
  · subst hp0
    rw [if_pos (show (85 : Nat) = 85 from rfl)] at h
    split at h
    · skip
      have hv : v = R := hv
      subst hv
      exact w60_85  h
    · cases h
  · rw [if_neg hp0] at h
    cases h
set_option maxRecDepth 20000 in
set_option maxHeartbeats 4000000 in
theorem we60 {l1 : Int32} {D : sm_D} {M : sm_M} {R : sm_S} (h : jR_compile l1 D M = some R) : sm_WJ smT smCl smSa shM f60 8 0 [.ref 1, .int l1, .retAddr 0, .retAddr 0, .retAddr 0] [] D M R := by
  have e : jR_compile l1 D M = (sm_run shM smSa cal60 c60 false (fun a D M => some (a, D, M)) (lf60_0 D) 105 (c60.drop 0) [.ref 1, .int l1, .retAddr 0, .retAddr 0, .retAddr 0] [] D M : Option (sm_S)) := rfl
  exact sm_blk (ρ := sm_S) (gd := (fun v => v = R)) (kx := 60) (i := 0) smVM rfl (by decide) ck60 (fun a D M v e1 e2 => by cases e1; exact e2.symm) (ll60_0 D) rfl (e.symm.trans h) rfl
theorem m60 {l1 : Int32} {D : sm_D} {M : sm_M} {R : sm_S} (h : jR_compile l1 D M = some R) : sm_MJ smT smCl smSa shM f60 8 [.ref 1, .int l1] D M R :=
  sm_met (by decide) (Nat.le_of_ble_eq_true rfl) (List.all_eq_true.mp rfl) (we60  h)

-- jR_clear
noncomputable def cal61  : sm_Cal := fun x as D M =>
  if x = 79 then (match as with
    | [.ref 1] => (jR_restart D M)
    | _ => none)
  else none
theorem ck61  : sm_CalOk smT smCl smP smSa shM 1 cal61 := by
  intro x g as D M R hx h
  unfold cal61 at h
  by_cases hx' : x = 79
  · subst hx'
    rw [if_pos (show (79 : Nat) = 79 from rfl)] at h
    cases (show smP[79]? = some f79 from rfl).symm.trans hx
    split at h
    · skip
      exact Or.inl ⟨0, by omega, m79   h⟩
    · cases h
  · rw [if_neg hx'] at h
    cases h
set_option maxRecDepth 20000 in
set_option maxHeartbeats 4000000 in
theorem we61 {D : sm_D} {M : sm_M} {R : sm_S} (h : jR_clear D M = some R) : sm_WJ smT smCl smSa shM f61 1 0 [.ref 1] [] D M R := by
  have e : jR_clear D M = (sm_run shM smSa cal61 c61 false (fun a D M => some (a, D, M)) sm_noleaf 20 (c61.drop 0) [.ref 1] [] D M : Option (sm_S)) := rfl
  exact sm_blk (ρ := sm_S) (gd := (fun v => v = R)) (kx := 61) (i := 0) smVM rfl (by decide) ck61 (fun a D M v e1 e2 => by cases e1; exact e2.symm) (sm_noleaf_ok) rfl (e.symm.trans h) rfl
theorem m61 {D : sm_D} {M : sm_M} {R : sm_S} (h : jR_clear D M = some R) : sm_MJ smT smCl smSa shM f61 1 [.ref 1] D M R :=
  sm_met (by decide) (Nat.le_of_ble_eq_true rfl) (List.all_eq_true.mp rfl) (we61  h)

-- jR_isAsked
noncomputable def cal62  : sm_Cal := fun x as D M =>
  if x = 19 then (match as with
    | [.ref 1, .int a1] => (jR_isMade a1 D M)
    | _ => none)
  else none
theorem ck62  : sm_CalOk smT smCl smP smSa shM 1 cal62 := by
  intro x g as D M R hx h
  unfold cal62 at h
  by_cases hx' : x = 19
  · subst hx'
    rw [if_pos (show (19 : Nat) = 19 from rfl)] at h
    cases (show smP[19]? = some f19 from rfl).symm.trans hx
    split at h
    · skip
      exact Or.inl ⟨0, by omega, m19   h⟩
    · cases h
  · rw [if_neg hx'] at h
    cases h
set_option maxRecDepth 20000 in
set_option maxHeartbeats 4000000 in
theorem w62_18 {s0 : Int32} {g0 g1 : Value} {D : sm_D} {M : sm_M} {R : sm_S} (h : jR_isAsked_18 s0 D M = some R) : sm_WJ smT smCl smSa shM f62 1 18 [g0, g1] [.int s0] D M R := by
  have e : jR_isAsked_18 s0 D M = (sm_run shM smSa cal62 c62 true (fun a D M => some (a, D, M)) sm_noleaf 16 (c62.drop 10) [g0, g1] [.int s0] D M : Option (sm_S)) := rfl
  exact sm_blk (ρ := sm_S) (gd := (fun v => v = R)) (kx := 62) (i := 10) smVM rfl (by decide) ck62 (fun a D M v e1 e2 => by cases e1; exact e2.symm) (sm_noleaf_ok) rfl (e.symm.trans h) rfl
noncomputable def lf62_13 (D : sm_D) : Nat → List Value → List Value → sm_D → sm_M → Option (sm_S) := fun pc ls st D' M =>
  if pc = 18 then (match ls, st with
    | [gl0, gl1], [.int bs0] => (jR_isAsked_18 bs0 D' M)
    | _, _ => none)
  else none
theorem ll62_13 (D : sm_D) {R : sm_S} : ∀ (pc : Nat) (ls st : List Value) (D' : sm_D) (M : sm_M) (v : sm_S), (lf62_13 D) pc ls st D' M = some v → (fun v => v = R) v → sm_WJ smT smCl smSa shM f62 1 pc ls st D' M R := by
  intro pc ls st D' M v h hv
  unfold lf62_13 at h
  by_cases hp0 : pc = 18
  · subst hp0
    rw [if_pos (show (18 : Nat) = 18 from rfl)] at h
    split at h
    · skip
      have hv : v = R := hv
      subst hv
      exact w62_18  h
    · cases h
  · rw [if_neg hp0] at h
    cases h
set_option maxRecDepth 20000 in
set_option maxHeartbeats 4000000 in
theorem w62_13 {g0 g1 : Value} {D : sm_D} {M : sm_M} {R : sm_S} (h : jR_isAsked_13 D M = some R) : sm_WJ smT smCl smSa shM f62 1 13 [g0, g1] [] D M R := by
  have e : jR_isAsked_13 D M = (sm_run shM smSa cal62 c62 true (fun a D M => some (a, D, M)) (lf62_13 D) 16 (c62.drop 7) [g0, g1] [] D M : Option (sm_S)) := rfl
  exact sm_blk (ρ := sm_S) (gd := (fun v => v = R)) (kx := 62) (i := 7) smVM rfl (by decide) ck62 (fun a D M v e1 e2 => by cases e1; exact e2.symm) (ll62_13 D) rfl (e.symm.trans h) rfl
noncomputable def lf62_0 (D : sm_D) : Nat → List Value → List Value → sm_D → sm_M → Option (sm_S) := fun pc ls st D' M =>
  if pc = 13 then (match ls, st with
    | [gl0, gl1], [] => (jR_isAsked_13 D' M)
    | _, _ => none)
  else if pc = 18 then (match ls, st with
    | [gl0, gl1], [.int bs0] => (jR_isAsked_18 bs0 D' M)
    | _, _ => none)
  else none
theorem ll62_0 (D : sm_D) {R : sm_S} : ∀ (pc : Nat) (ls st : List Value) (D' : sm_D) (M : sm_M) (v : sm_S), (lf62_0 D) pc ls st D' M = some v → (fun v => v = R) v → sm_WJ smT smCl smSa shM f62 1 pc ls st D' M R := by
  intro pc ls st D' M v h hv
  unfold lf62_0 at h
  by_cases hp0 : pc = 13
  · subst hp0
    rw [if_pos (show (13 : Nat) = 13 from rfl)] at h
    split at h
    · skip
      have hv : v = R := hv
      subst hv
      exact w62_13  h
    · cases h
  · rw [if_neg hp0] at h
    by_cases hp0 : pc = 18
    · subst hp0
      rw [if_pos (show (18 : Nat) = 18 from rfl)] at h
      split at h
      · skip
        have hv : v = R := hv
        subst hv
        exact w62_18  h
      · cases h
    · rw [if_neg hp0] at h
      cases h
set_option maxRecDepth 20000 in
set_option maxHeartbeats 4000000 in
theorem we62 {l1 : Int32} {D : sm_D} {M : sm_M} {R : sm_S} (h : jR_isAsked l1 D M = some R) : sm_WJ smT smCl smSa shM f62 1 0 [.ref 1, .int l1] [] D M R := by
  have e : jR_isAsked l1 D M = (sm_run shM smSa cal62 c62 true (fun a D M => some (a, D, M)) (lf62_0 D) 16 (c62.drop 0) [.ref 1, .int l1] [] D M : Option (sm_S)) := rfl
  exact sm_blk (ρ := sm_S) (gd := (fun v => v = R)) (kx := 62) (i := 0) smVM rfl (by decide) ck62 (fun a D M v e1 e2 => by cases e1; exact e2.symm) (ll62_0 D) rfl (e.symm.trans h) rfl
theorem m62 {l1 : Int32} {D : sm_D} {M : sm_M} {R : sm_S} (h : jR_isAsked l1 D M = some R) : sm_MJ smT smCl smSa shM f62 1 [.ref 1, .int l1] D M R :=
  sm_met (by decide) (Nat.le_of_ble_eq_true rfl) (List.all_eq_true.mp rfl) (we62  h)

-- jR_block
noncomputable def cal63  : sm_Cal := fun x as D M =>
  if x = 62 then (match as with
    | [.ref 1, .int a1] => (jR_isAsked a1 D M)
    | _ => none)
  else if x = 20 then (match as with
    | [.ref 1, .int a1] => (jR_numberOf a1 D M)
    | _ => none)
  else if x = 42 then (match as with
    | [.ref 1, .int a1, .int a2, .int a3, .int a4] => (jR_beginBlock a1 a2 a3 a4 D M)
    | _ => none)
  else if x = 79 then (match as with
    | [.ref 1] => (jR_restart D M)
    | _ => none)
  else none
theorem ck63  : sm_CalOk smT smCl smP smSa shM 2 cal63 := by
  intro x g as D M R hx h
  unfold cal63 at h
  by_cases hx' : x = 62
  · subst hx'
    rw [if_pos (show (62 : Nat) = 62 from rfl)] at h
    cases (show smP[62]? = some f62 from rfl).symm.trans hx
    split at h
    · skip
      exact Or.inl ⟨1, by omega, m62   h⟩
    · cases h
  · rw [if_neg hx'] at h
    by_cases hx' : x = 20
    · subst hx'
      rw [if_pos (show (20 : Nat) = 20 from rfl)] at h
      cases (show smP[20]? = some f20 from rfl).symm.trans hx
      split at h
      · skip
        exact Or.inl ⟨0, by omega, m20   h⟩
      · cases h
    · rw [if_neg hx'] at h
      by_cases hx' : x = 42
      · subst hx'
        rw [if_pos (show (42 : Nat) = 42 from rfl)] at h
        cases (show smP[42]? = some f42 from rfl).symm.trans hx
        split at h
        · skip
          exact Or.inl ⟨0, by omega, m42   h⟩
        · cases h
      · rw [if_neg hx'] at h
        by_cases hx' : x = 79
        · subst hx'
          rw [if_pos (show (79 : Nat) = 79 from rfl)] at h
          cases (show smP[79]? = some f79 from rfl).symm.trans hx
          split at h
          · skip
            exact Or.inl ⟨0, by omega, m79   h⟩
          · cases h
        · rw [if_neg hx'] at h
          cases h
set_option maxRecDepth 20000 in
set_option maxHeartbeats 4000000 in
theorem w63_45 {g0 g1 g2 g3 : Value} {D : sm_D} {M : sm_M} {R : sm_S} (h : jR_block_45 D M = some R) : sm_WJ smT smCl smSa shM f63 2 45 [g0, g1, g2, g3] [] D M R := by
  have e : jR_block_45 D M = (sm_run shM smSa cal63 c63 false (fun a D M => some (a, D, M)) sm_noleaf 55 (c63.drop 22) [g0, g1, g2, g3] [] D M : Option (sm_S)) := rfl
  exact sm_blk (ρ := sm_S) (gd := (fun v => v = R)) (kx := 63) (i := 22) smVM rfl (by decide) ck63 (fun a D M v e1 e2 => by cases e1; exact e2.symm) (sm_noleaf_ok) rfl (e.symm.trans h) rfl
noncomputable def lf63_0 (D : sm_D) : Nat → List Value → List Value → sm_D → sm_M → Option (sm_S) := fun pc ls st D' M =>
  if pc = 45 then (match ls, st with
    | [gl0, gl1, gl2, gl3], [] => (jR_block_45 D' M)
    | _, _ => none)
  else none
theorem ll63_0 (D : sm_D) {R : sm_S} : ∀ (pc : Nat) (ls st : List Value) (D' : sm_D) (M : sm_M) (v : sm_S), (lf63_0 D) pc ls st D' M = some v → (fun v => v = R) v → sm_WJ smT smCl smSa shM f63 2 pc ls st D' M R := by
  intro pc ls st D' M v h hv
  unfold lf63_0 at h
  by_cases hp0 : pc = 45
  · subst hp0
    rw [if_pos (show (45 : Nat) = 45 from rfl)] at h
    split at h
    · skip
      have hv : v = R := hv
      subst hv
      exact w63_45  h
    · cases h
  · rw [if_neg hp0] at h
    cases h
set_option maxRecDepth 20000 in
set_option maxHeartbeats 4000000 in
theorem we63 {l1 l2 l3 : Int32} {D : sm_D} {M : sm_M} {R : sm_S} (h : jR_block l1 l2 l3 D M = some R) : sm_WJ smT smCl smSa shM f63 2 0 [.ref 1, .int l1, .int l2, .int l3] [] D M R := by
  have e : jR_block l1 l2 l3 D M = (sm_run shM smSa cal63 c63 false (fun a D M => some (a, D, M)) (lf63_0 D) 55 (c63.drop 0) [.ref 1, .int l1, .int l2, .int l3] [] D M : Option (sm_S)) := rfl
  exact sm_blk (ρ := sm_S) (gd := (fun v => v = R)) (kx := 63) (i := 0) smVM rfl (by decide) ck63 (fun a D M v e1 e2 => by cases e1; exact e2.symm) (ll63_0 D) rfl (e.symm.trans h) rfl
theorem m63 {l1 l2 l3 : Int32} {D : sm_D} {M : sm_M} {R : sm_S} (h : jR_block l1 l2 l3 D M = some R) : sm_MJ smT smCl smSa shM f63 2 [.ref 1, .int l1, .int l2, .int l3] D M R :=
  sm_met (by decide) (Nat.le_of_ble_eq_true rfl) (List.all_eq_true.mp rfl) (we63  h)

-- jR_isRegister
set_option maxRecDepth 20000 in
set_option maxHeartbeats 4000000 in
theorem w64_15 {s0 : Int32} {g0 : Value} {D : sm_D} {M : sm_M} {R : sm_S} (h : jR_isRegister_15 s0 D M = some R) : sm_WJ smT smCl smSa shM f64 0 15 [g0] [.int s0] D M R := by
  have e : jR_isRegister_15 s0 D M = (sm_run shM smSa sm_nocal c64 true (fun a D M => some (a, D, M)) sm_noleaf 15 (c64.drop 9) [g0] [.int s0] D M : Option (sm_S)) := rfl
  exact sm_blk (ρ := sm_S) (gd := (fun v => v = R)) (kx := 64) (i := 9) smVM rfl (by decide) (sm_nocal_ok smT smCl smP smSa shM 0) (fun a D M v e1 e2 => by cases e1; exact e2.symm) (sm_noleaf_ok) rfl (e.symm.trans h) rfl
noncomputable def lf64_14 (D : sm_D) : Nat → List Value → List Value → sm_D → sm_M → Option (sm_S) := fun pc ls st D' M =>
  if pc = 15 then (match ls, st with
    | [gl0], [.int bs0] => (jR_isRegister_15 bs0 D' M)
    | _, _ => none)
  else none
theorem ll64_14 (D : sm_D) {R : sm_S} : ∀ (pc : Nat) (ls st : List Value) (D' : sm_D) (M : sm_M) (v : sm_S), (lf64_14 D) pc ls st D' M = some v → (fun v => v = R) v → sm_WJ smT smCl smSa shM f64 0 pc ls st D' M R := by
  intro pc ls st D' M v h hv
  unfold lf64_14 at h
  by_cases hp0 : pc = 15
  · subst hp0
    rw [if_pos (show (15 : Nat) = 15 from rfl)] at h
    split at h
    · skip
      have hv : v = R := hv
      subst hv
      exact w64_15  h
    · cases h
  · rw [if_neg hp0] at h
    cases h
set_option maxRecDepth 20000 in
set_option maxHeartbeats 4000000 in
theorem w64_14 {g0 : Value} {D : sm_D} {M : sm_M} {R : sm_S} (h : jR_isRegister_14 D M = some R) : sm_WJ smT smCl smSa shM f64 0 14 [g0] [] D M R := by
  have e : jR_isRegister_14 D M = (sm_run shM smSa sm_nocal c64 true (fun a D M => some (a, D, M)) (lf64_14 D) 15 (c64.drop 8) [g0] [] D M : Option (sm_S)) := rfl
  exact sm_blk (ρ := sm_S) (gd := (fun v => v = R)) (kx := 64) (i := 8) smVM rfl (by decide) (sm_nocal_ok smT smCl smP smSa shM 0) (fun a D M v e1 e2 => by cases e1; exact e2.symm) (ll64_14 D) rfl (e.symm.trans h) rfl
noncomputable def lf64_0 (D : sm_D) : Nat → List Value → List Value → sm_D → sm_M → Option (sm_S) := fun pc ls st D' M =>
  if pc = 14 then (match ls, st with
    | [gl0], [] => (jR_isRegister_14 D' M)
    | _, _ => none)
  else if pc = 15 then (match ls, st with
    | [gl0], [.int bs0] => (jR_isRegister_15 bs0 D' M)
    | _, _ => none)
  else none
theorem ll64_0 (D : sm_D) {R : sm_S} : ∀ (pc : Nat) (ls st : List Value) (D' : sm_D) (M : sm_M) (v : sm_S), (lf64_0 D) pc ls st D' M = some v → (fun v => v = R) v → sm_WJ smT smCl smSa shM f64 0 pc ls st D' M R := by
  intro pc ls st D' M v h hv
  unfold lf64_0 at h
  by_cases hp0 : pc = 14
  · subst hp0
    rw [if_pos (show (14 : Nat) = 14 from rfl)] at h
    split at h
    · skip
      have hv : v = R := hv
      subst hv
      exact w64_14  h
    · cases h
  · rw [if_neg hp0] at h
    by_cases hp0 : pc = 15
    · subst hp0
      rw [if_pos (show (15 : Nat) = 15 from rfl)] at h
      split at h
      · skip
        have hv : v = R := hv
        subst hv
        exact w64_15  h
      · cases h
    · rw [if_neg hp0] at h
      cases h
set_option maxRecDepth 20000 in
set_option maxHeartbeats 4000000 in
theorem we64 {l0 : Int32} {D : sm_D} {M : sm_M} {R : sm_S} (h : jR_isRegister l0 D M = some R) : sm_WJ smT smCl smSa shM f64 0 0 [.int l0] [] D M R := by
  have e : jR_isRegister l0 D M = (sm_run shM smSa sm_nocal c64 true (fun a D M => some (a, D, M)) (lf64_0 D) 15 (c64.drop 0) [.int l0] [] D M : Option (sm_S)) := rfl
  exact sm_blk (ρ := sm_S) (gd := (fun v => v = R)) (kx := 64) (i := 0) smVM rfl (by decide) (sm_nocal_ok smT smCl smP smSa shM 0) (fun a D M v e1 e2 => by cases e1; exact e2.symm) (ll64_0 D) rfl (e.symm.trans h) rfl
theorem m64 {l0 : Int32} {D : sm_D} {M : sm_M} {R : sm_S} (h : jR_isRegister l0 D M = some R) : sm_MJ smT smCl smSa shM f64 0 [.int l0] D M R :=
  sm_met (by decide) (Nat.le_of_ble_eq_true rfl) (List.all_eq_true.mp rfl) (we64  h)

-- jR_isBlock
set_option maxRecDepth 20000 in
set_option maxHeartbeats 4000000 in
theorem w65_15 {s0 : Int32} {g0 : Value} {D : sm_D} {M : sm_M} {R : sm_S} (h : jR_isBlock_15 s0 D M = some R) : sm_WJ smT smCl smSa shM f65 0 15 [g0] [.int s0] D M R := by
  have e : jR_isBlock_15 s0 D M = (sm_run shM smSa sm_nocal c65 true (fun a D M => some (a, D, M)) sm_noleaf 14 (c65.drop 8) [g0] [.int s0] D M : Option (sm_S)) := rfl
  exact sm_blk (ρ := sm_S) (gd := (fun v => v = R)) (kx := 65) (i := 8) smVM rfl (by decide) (sm_nocal_ok smT smCl smP smSa shM 0) (fun a D M v e1 e2 => by cases e1; exact e2.symm) (sm_noleaf_ok) rfl (e.symm.trans h) rfl
noncomputable def lf65_14 (D : sm_D) : Nat → List Value → List Value → sm_D → sm_M → Option (sm_S) := fun pc ls st D' M =>
  if pc = 15 then (match ls, st with
    | [gl0], [.int bs0] => (jR_isBlock_15 bs0 D' M)
    | _, _ => none)
  else none
theorem ll65_14 (D : sm_D) {R : sm_S} : ∀ (pc : Nat) (ls st : List Value) (D' : sm_D) (M : sm_M) (v : sm_S), (lf65_14 D) pc ls st D' M = some v → (fun v => v = R) v → sm_WJ smT smCl smSa shM f65 0 pc ls st D' M R := by
  intro pc ls st D' M v h hv
  unfold lf65_14 at h
  by_cases hp0 : pc = 15
  · subst hp0
    rw [if_pos (show (15 : Nat) = 15 from rfl)] at h
    split at h
    · skip
      have hv : v = R := hv
      subst hv
      exact w65_15  h
    · cases h
  · rw [if_neg hp0] at h
    cases h
set_option maxRecDepth 20000 in
set_option maxHeartbeats 4000000 in
theorem w65_14 {g0 : Value} {D : sm_D} {M : sm_M} {R : sm_S} (h : jR_isBlock_14 D M = some R) : sm_WJ smT smCl smSa shM f65 0 14 [g0] [] D M R := by
  have e : jR_isBlock_14 D M = (sm_run shM smSa sm_nocal c65 true (fun a D M => some (a, D, M)) (lf65_14 D) 14 (c65.drop 7) [g0] [] D M : Option (sm_S)) := rfl
  exact sm_blk (ρ := sm_S) (gd := (fun v => v = R)) (kx := 65) (i := 7) smVM rfl (by decide) (sm_nocal_ok smT smCl smP smSa shM 0) (fun a D M v e1 e2 => by cases e1; exact e2.symm) (ll65_14 D) rfl (e.symm.trans h) rfl
noncomputable def lf65_0 (D : sm_D) : Nat → List Value → List Value → sm_D → sm_M → Option (sm_S) := fun pc ls st D' M =>
  if pc = 14 then (match ls, st with
    | [gl0], [] => (jR_isBlock_14 D' M)
    | _, _ => none)
  else if pc = 15 then (match ls, st with
    | [gl0], [.int bs0] => (jR_isBlock_15 bs0 D' M)
    | _, _ => none)
  else none
theorem ll65_0 (D : sm_D) {R : sm_S} : ∀ (pc : Nat) (ls st : List Value) (D' : sm_D) (M : sm_M) (v : sm_S), (lf65_0 D) pc ls st D' M = some v → (fun v => v = R) v → sm_WJ smT smCl smSa shM f65 0 pc ls st D' M R := by
  intro pc ls st D' M v h hv
  unfold lf65_0 at h
  by_cases hp0 : pc = 14
  · subst hp0
    rw [if_pos (show (14 : Nat) = 14 from rfl)] at h
    split at h
    · skip
      have hv : v = R := hv
      subst hv
      exact w65_14  h
    · cases h
  · rw [if_neg hp0] at h
    by_cases hp0 : pc = 15
    · subst hp0
      rw [if_pos (show (15 : Nat) = 15 from rfl)] at h
      split at h
      · skip
        have hv : v = R := hv
        subst hv
        exact w65_15  h
      · cases h
    · rw [if_neg hp0] at h
      cases h
set_option maxRecDepth 20000 in
set_option maxHeartbeats 4000000 in
theorem we65 {l0 : Int32} {D : sm_D} {M : sm_M} {R : sm_S} (h : jR_isBlock l0 D M = some R) : sm_WJ smT smCl smSa shM f65 0 0 [.int l0] [] D M R := by
  have e : jR_isBlock l0 D M = (sm_run shM smSa sm_nocal c65 true (fun a D M => some (a, D, M)) (lf65_0 D) 14 (c65.drop 0) [.int l0] [] D M : Option (sm_S)) := rfl
  exact sm_blk (ρ := sm_S) (gd := (fun v => v = R)) (kx := 65) (i := 0) smVM rfl (by decide) (sm_nocal_ok smT smCl smP smSa shM 0) (fun a D M v e1 e2 => by cases e1; exact e2.symm) (ll65_0 D) rfl (e.symm.trans h) rfl
theorem m65 {l0 : Int32} {D : sm_D} {M : sm_M} {R : sm_S} (h : jR_isBlock l0 D M = some R) : sm_MJ smT smCl smSa shM f65 0 [.int l0] D M R :=
  sm_met (by decide) (Nat.le_of_ble_eq_true rfl) (List.all_eq_true.mp rfl) (we65  h)

-- jR_fits
noncomputable def cal66  : sm_Cal := fun x as D M =>
  if x = 64 then (match as with
    | [.int a0] => (jR_isRegister a0 D M)
    | _ => none)
  else if x = 65 then (match as with
    | [.int a0] => (jR_isBlock a0 D M)
    | _ => none)
  else if x = 19 then (match as with
    | [.ref 1, .int a1] => (jR_isMade a1 D M)
    | _ => none)
  else none
theorem ck66  : sm_CalOk smT smCl smP smSa shM 1 cal66 := by
  intro x g as D M R hx h
  unfold cal66 at h
  by_cases hx' : x = 64
  · subst hx'
    rw [if_pos (show (64 : Nat) = 64 from rfl)] at h
    cases (show smP[64]? = some f64 from rfl).symm.trans hx
    split at h
    · skip
      exact Or.inl ⟨0, by omega, m64   h⟩
    · cases h
  · rw [if_neg hx'] at h
    by_cases hx' : x = 65
    · subst hx'
      rw [if_pos (show (65 : Nat) = 65 from rfl)] at h
      cases (show smP[65]? = some f65 from rfl).symm.trans hx
      split at h
      · skip
        exact Or.inl ⟨0, by omega, m65   h⟩
      · cases h
    · rw [if_neg hx'] at h
      by_cases hx' : x = 19
      · subst hx'
        rw [if_pos (show (19 : Nat) = 19 from rfl)] at h
        cases (show smP[19]? = some f19 from rfl).symm.trans hx
        split at h
        · skip
          exact Or.inl ⟨0, by omega, m19   h⟩
        · cases h
      · rw [if_neg hx'] at h
        cases h
set_option maxRecDepth 20000 in
set_option maxHeartbeats 4000000 in
theorem w66_64 {l2 : Int32} {g0 g1 g3 g4 : Value} {D : sm_D} {M : sm_M} {R : sm_S} (h : jR_fits_64 l2 D M = some R) : sm_WJ smT smCl smSa shM f66 1 64 [g0, g1, .int l2, g3, g4] [] D M R := by
  have e : jR_fits_64 l2 D M = (sm_run shM smSa cal66 c66 true (fun a D M => some (a, D, M)) sm_noleaf 85 (c66.drop 2) [g0, g1, .int l2, g3, g4] [] D M : Option (sm_S)) := rfl
  exact sm_blk (ρ := sm_S) (gd := (fun v => v = R)) (kx := 66) (i := 2) smVM rfl (by decide) ck66 (fun a D M v e1 e2 => by cases e1; exact e2.symm) (sm_noleaf_ok) rfl (e.symm.trans h) rfl
set_option maxRecDepth 20000 in
set_option maxHeartbeats 4000000 in
theorem w66_96 {s0 : Int32} {g0 g1 g2 g3 g4 : Value} {D : sm_D} {M : sm_M} {R : sm_S} (h : jR_fits_96 s0 D M = some R) : sm_WJ smT smCl smSa shM f66 1 96 [g0, g1, g2, g3, g4] [.int s0] D M R := by
  have e : jR_fits_96 s0 D M = (sm_run shM smSa cal66 c66 true (fun a D M => some (a, D, M)) sm_noleaf 85 (c66.drop 17) [g0, g1, g2, g3, g4] [.int s0] D M : Option (sm_S)) := rfl
  exact sm_blk (ρ := sm_S) (gd := (fun v => v = R)) (kx := 66) (i := 17) smVM rfl (by decide) ck66 (fun a D M v e1 e2 => by cases e1; exact e2.symm) (sm_noleaf_ok) rfl (e.symm.trans h) rfl
noncomputable def lf66_95 (D : sm_D) : Nat → List Value → List Value → sm_D → sm_M → Option (sm_S) := fun pc ls st D' M =>
  if pc = 96 then (match ls, st with
    | [gl0, gl1, gl2, gl3, gl4], [.int bs0] => (jR_fits_96 bs0 D' M)
    | _, _ => none)
  else none
theorem ll66_95 (D : sm_D) {R : sm_S} : ∀ (pc : Nat) (ls st : List Value) (D' : sm_D) (M : sm_M) (v : sm_S), (lf66_95 D) pc ls st D' M = some v → (fun v => v = R) v → sm_WJ smT smCl smSa shM f66 1 pc ls st D' M R := by
  intro pc ls st D' M v h hv
  unfold lf66_95 at h
  by_cases hp0 : pc = 96
  · subst hp0
    rw [if_pos (show (96 : Nat) = 96 from rfl)] at h
    split at h
    · skip
      have hv : v = R := hv
      subst hv
      exact w66_96  h
    · cases h
  · rw [if_neg hp0] at h
    cases h
set_option maxRecDepth 20000 in
set_option maxHeartbeats 4000000 in
theorem w66_95 {g0 g1 g2 g3 g4 : Value} {D : sm_D} {M : sm_M} {R : sm_S} (h : jR_fits_95 D M = some R) : sm_WJ smT smCl smSa shM f66 1 95 [g0, g1, g2, g3, g4] [] D M R := by
  have e : jR_fits_95 D M = (sm_run shM smSa cal66 c66 true (fun a D M => some (a, D, M)) (lf66_95 D) 85 (c66.drop 16) [g0, g1, g2, g3, g4] [] D M : Option (sm_S)) := rfl
  exact sm_blk (ρ := sm_S) (gd := (fun v => v = R)) (kx := 66) (i := 16) smVM rfl (by decide) ck66 (fun a D M v e1 e2 => by cases e1; exact e2.symm) (ll66_95 D) rfl (e.symm.trans h) rfl
noncomputable def lf66_69 (D : sm_D) : Nat → List Value → List Value → sm_D → sm_M → Option (sm_S) := fun pc ls st D' M =>
  if pc = 95 then (match ls, st with
    | [gl0, gl1, gl2, gl3, gl4], [] => (jR_fits_95 D' M)
    | _, _ => none)
  else if pc = 96 then (match ls, st with
    | [gl0, gl1, gl2, gl3, gl4], [.int bs0] => (jR_fits_96 bs0 D' M)
    | _, _ => none)
  else none
theorem ll66_69 (D : sm_D) {R : sm_S} : ∀ (pc : Nat) (ls st : List Value) (D' : sm_D) (M : sm_M) (v : sm_S), (lf66_69 D) pc ls st D' M = some v → (fun v => v = R) v → sm_WJ smT smCl smSa shM f66 1 pc ls st D' M R := by
  intro pc ls st D' M v h hv
  unfold lf66_69 at h
  by_cases hp0 : pc = 95
  · subst hp0
    rw [if_pos (show (95 : Nat) = 95 from rfl)] at h
    split at h
    · skip
      have hv : v = R := hv
      subst hv
      exact w66_95  h
    · cases h
  · rw [if_neg hp0] at h
    by_cases hp0 : pc = 96
    · subst hp0
      rw [if_pos (show (96 : Nat) = 96 from rfl)] at h
      split at h
      · skip
        have hv : v = R := hv
        subst hv
        exact w66_96  h
      · cases h
    · rw [if_neg hp0] at h
      cases h
set_option maxRecDepth 20000 in
set_option maxHeartbeats 4000000 in
theorem w66_69 {l2 l3 l4 : Int32} {g0 g1 : Value} {D : sm_D} {M : sm_M} {R : sm_S} (h : jR_fits_69 l2 l3 l4 D M = some R) : sm_WJ smT smCl smSa shM f66 1 69 [g0, g1, .int l2, .int l3, .int l4] [] D M R := by
  have e : jR_fits_69 l2 l3 l4 D M = (sm_run shM smSa cal66 c66 true (fun a D M => some (a, D, M)) (lf66_69 D) 85 (c66.drop 5) [g0, g1, .int l2, .int l3, .int l4] [] D M : Option (sm_S)) := rfl
  exact sm_blk (ρ := sm_S) (gd := (fun v => v = R)) (kx := 66) (i := 5) smVM rfl (by decide) ck66 (fun a D M v e1 e2 => by cases e1; exact e2.symm) (ll66_69 D) rfl (e.symm.trans h) rfl
set_option maxRecDepth 20000 in
set_option maxHeartbeats 4000000 in
theorem w66_127 {s0 : Int32} {g0 g1 g2 g3 g4 : Value} {D : sm_D} {M : sm_M} {R : sm_S} (h : jR_fits_127 s0 D M = some R) : sm_WJ smT smCl smSa shM f66 1 127 [g0, g1, g2, g3, g4] [.int s0] D M R := by
  have e : jR_fits_127 s0 D M = (sm_run shM smSa cal66 c66 true (fun a D M => some (a, D, M)) sm_noleaf 85 (c66.drop 32) [g0, g1, g2, g3, g4] [.int s0] D M : Option (sm_S)) := rfl
  exact sm_blk (ρ := sm_S) (gd := (fun v => v = R)) (kx := 66) (i := 32) smVM rfl (by decide) ck66 (fun a D M v e1 e2 => by cases e1; exact e2.symm) (sm_noleaf_ok) rfl (e.symm.trans h) rfl
noncomputable def lf66_122 (D : sm_D) : Nat → List Value → List Value → sm_D → sm_M → Option (sm_S) := fun pc ls st D' M =>
  if pc = 127 then (match ls, st with
    | [gl0, gl1, gl2, gl3, gl4], [.int bs0] => (jR_fits_127 bs0 D' M)
    | _, _ => none)
  else none
theorem ll66_122 (D : sm_D) {R : sm_S} : ∀ (pc : Nat) (ls st : List Value) (D' : sm_D) (M : sm_M) (v : sm_S), (lf66_122 D) pc ls st D' M = some v → (fun v => v = R) v → sm_WJ smT smCl smSa shM f66 1 pc ls st D' M R := by
  intro pc ls st D' M v h hv
  unfold lf66_122 at h
  by_cases hp0 : pc = 127
  · subst hp0
    rw [if_pos (show (127 : Nat) = 127 from rfl)] at h
    split at h
    · skip
      have hv : v = R := hv
      subst hv
      exact w66_127  h
    · cases h
  · rw [if_neg hp0] at h
    cases h
set_option maxRecDepth 20000 in
set_option maxHeartbeats 4000000 in
theorem w66_122 {g0 g1 g2 g3 g4 : Value} {D : sm_D} {M : sm_M} {R : sm_S} (h : jR_fits_122 D M = some R) : sm_WJ smT smCl smSa shM f66 1 122 [g0, g1, g2, g3, g4] [] D M R := by
  have e : jR_fits_122 D M = (sm_run shM smSa cal66 c66 true (fun a D M => some (a, D, M)) (lf66_122 D) 85 (c66.drop 29) [g0, g1, g2, g3, g4] [] D M : Option (sm_S)) := rfl
  exact sm_blk (ρ := sm_S) (gd := (fun v => v = R)) (kx := 66) (i := 29) smVM rfl (by decide) ck66 (fun a D M v e1 e2 => by cases e1; exact e2.symm) (ll66_122 D) rfl (e.symm.trans h) rfl
noncomputable def lf66_126 (D : sm_D) : Nat → List Value → List Value → sm_D → sm_M → Option (sm_S) := fun pc ls st D' M =>
  if pc = 127 then (match ls, st with
    | [gl0, gl1, gl2, gl3, gl4], [.int bs0] => (jR_fits_127 bs0 D' M)
    | _, _ => none)
  else none
theorem ll66_126 (D : sm_D) {R : sm_S} : ∀ (pc : Nat) (ls st : List Value) (D' : sm_D) (M : sm_M) (v : sm_S), (lf66_126 D) pc ls st D' M = some v → (fun v => v = R) v → sm_WJ smT smCl smSa shM f66 1 pc ls st D' M R := by
  intro pc ls st D' M v h hv
  unfold lf66_126 at h
  by_cases hp0 : pc = 127
  · subst hp0
    rw [if_pos (show (127 : Nat) = 127 from rfl)] at h
    split at h
    · skip
      have hv : v = R := hv
      subst hv
      exact w66_127  h
    · cases h
  · rw [if_neg hp0] at h
    cases h
set_option maxRecDepth 20000 in
set_option maxHeartbeats 4000000 in
theorem w66_126 {g0 g1 g2 g3 g4 : Value} {D : sm_D} {M : sm_M} {R : sm_S} (h : jR_fits_126 D M = some R) : sm_WJ smT smCl smSa shM f66 1 126 [g0, g1, g2, g3, g4] [] D M R := by
  have e : jR_fits_126 D M = (sm_run shM smSa cal66 c66 true (fun a D M => some (a, D, M)) (lf66_126 D) 85 (c66.drop 31) [g0, g1, g2, g3, g4] [] D M : Option (sm_S)) := rfl
  exact sm_blk (ρ := sm_S) (gd := (fun v => v = R)) (kx := 66) (i := 31) smVM rfl (by decide) ck66 (fun a D M v e1 e2 => by cases e1; exact e2.symm) (ll66_126 D) rfl (e.symm.trans h) rfl
set_option maxRecDepth 20000 in
set_option maxHeartbeats 4000000 in
theorem w66_147 {s0 : Int32} {g0 g1 g2 g3 g4 : Value} {D : sm_D} {M : sm_M} {R : sm_S} (h : jR_fits_147 s0 D M = some R) : sm_WJ smT smCl smSa shM f66 1 147 [g0, g1, g2, g3, g4] [.int s0] D M R := by
  have e : jR_fits_147 s0 D M = (sm_run shM smSa cal66 c66 true (fun a D M => some (a, D, M)) sm_noleaf 85 (c66.drop 42) [g0, g1, g2, g3, g4] [.int s0] D M : Option (sm_S)) := rfl
  exact sm_blk (ρ := sm_S) (gd := (fun v => v = R)) (kx := 66) (i := 42) smVM rfl (by decide) ck66 (fun a D M v e1 e2 => by cases e1; exact e2.symm) (sm_noleaf_ok) rfl (e.symm.trans h) rfl
noncomputable def lf66_146 (D : sm_D) : Nat → List Value → List Value → sm_D → sm_M → Option (sm_S) := fun pc ls st D' M =>
  if pc = 147 then (match ls, st with
    | [gl0, gl1, gl2, gl3, gl4], [.int bs0] => (jR_fits_147 bs0 D' M)
    | _, _ => none)
  else none
theorem ll66_146 (D : sm_D) {R : sm_S} : ∀ (pc : Nat) (ls st : List Value) (D' : sm_D) (M : sm_M) (v : sm_S), (lf66_146 D) pc ls st D' M = some v → (fun v => v = R) v → sm_WJ smT smCl smSa shM f66 1 pc ls st D' M R := by
  intro pc ls st D' M v h hv
  unfold lf66_146 at h
  by_cases hp0 : pc = 147
  · subst hp0
    rw [if_pos (show (147 : Nat) = 147 from rfl)] at h
    split at h
    · skip
      have hv : v = R := hv
      subst hv
      exact w66_147  h
    · cases h
  · rw [if_neg hp0] at h
    cases h
set_option maxRecDepth 20000 in
set_option maxHeartbeats 4000000 in
theorem w66_146 {g0 g1 g2 g3 g4 : Value} {D : sm_D} {M : sm_M} {R : sm_S} (h : jR_fits_146 D M = some R) : sm_WJ smT smCl smSa shM f66 1 146 [g0, g1, g2, g3, g4] [] D M R := by
  have e : jR_fits_146 D M = (sm_run shM smSa cal66 c66 true (fun a D M => some (a, D, M)) (lf66_146 D) 85 (c66.drop 41) [g0, g1, g2, g3, g4] [] D M : Option (sm_S)) := rfl
  exact sm_blk (ρ := sm_S) (gd := (fun v => v = R)) (kx := 66) (i := 41) smVM rfl (by decide) ck66 (fun a D M v e1 e2 => by cases e1; exact e2.symm) (ll66_146 D) rfl (e.symm.trans h) rfl
noncomputable def lf66_128 (D : sm_D) : Nat → List Value → List Value → sm_D → sm_M → Option (sm_S) := fun pc ls st D' M =>
  if pc = 146 then (match ls, st with
    | [gl0, gl1, gl2, gl3, gl4], [] => (jR_fits_146 D' M)
    | _, _ => none)
  else if pc = 147 then (match ls, st with
    | [gl0, gl1, gl2, gl3, gl4], [.int bs0] => (jR_fits_147 bs0 D' M)
    | _, _ => none)
  else none
theorem ll66_128 (D : sm_D) {R : sm_S} : ∀ (pc : Nat) (ls st : List Value) (D' : sm_D) (M : sm_M) (v : sm_S), (lf66_128 D) pc ls st D' M = some v → (fun v => v = R) v → sm_WJ smT smCl smSa shM f66 1 pc ls st D' M R := by
  intro pc ls st D' M v h hv
  unfold lf66_128 at h
  by_cases hp0 : pc = 146
  · subst hp0
    rw [if_pos (show (146 : Nat) = 146 from rfl)] at h
    split at h
    · skip
      have hv : v = R := hv
      subst hv
      exact w66_146  h
    · cases h
  · rw [if_neg hp0] at h
    by_cases hp0 : pc = 147
    · subst hp0
      rw [if_pos (show (147 : Nat) = 147 from rfl)] at h
      split at h
      · skip
        have hv : v = R := hv
        subst hv
        exact w66_147  h
      · cases h
    · rw [if_neg hp0] at h
      cases h
set_option maxRecDepth 20000 in
set_option maxHeartbeats 4000000 in
theorem w66_128 {l2 l3 : Int32} {g0 g1 g4 : Value} {D : sm_D} {M : sm_M} {R : sm_S} (h : jR_fits_128 l2 l3 D M = some R) : sm_WJ smT smCl smSa shM f66 1 128 [g0, g1, .int l2, .int l3, g4] [] D M R := by
  have e : jR_fits_128 l2 l3 D M = (sm_run shM smSa cal66 c66 true (fun a D M => some (a, D, M)) (lf66_128 D) 85 (c66.drop 33) [g0, g1, .int l2, .int l3, g4] [] D M : Option (sm_S)) := rfl
  exact sm_blk (ρ := sm_S) (gd := (fun v => v = R)) (kx := 66) (i := 33) smVM rfl (by decide) ck66 (fun a D M v e1 e2 => by cases e1; exact e2.symm) (ll66_128 D) rfl (e.symm.trans h) rfl
set_option maxRecDepth 20000 in
set_option maxHeartbeats 4000000 in
theorem w66_208 {s0 : Int32} {g0 g1 g2 g3 g4 : Value} {D : sm_D} {M : sm_M} {R : sm_S} (h : jR_fits_208 s0 D M = some R) : sm_WJ smT smCl smSa shM f66 1 208 [g0, g1, g2, g3, g4] [.int s0] D M R := by
  have e : jR_fits_208 s0 D M = (sm_run shM smSa cal66 c66 true (fun a D M => some (a, D, M)) sm_noleaf 85 (c66.drop 74) [g0, g1, g2, g3, g4] [.int s0] D M : Option (sm_S)) := rfl
  exact sm_blk (ρ := sm_S) (gd := (fun v => v = R)) (kx := 66) (i := 74) smVM rfl (by decide) ck66 (fun a D M v e1 e2 => by cases e1; exact e2.symm) (sm_noleaf_ok) rfl (e.symm.trans h) rfl
noncomputable def lf66_203 (D : sm_D) : Nat → List Value → List Value → sm_D → sm_M → Option (sm_S) := fun pc ls st D' M =>
  if pc = 208 then (match ls, st with
    | [gl0, gl1, gl2, gl3, gl4], [.int bs0] => (jR_fits_208 bs0 D' M)
    | _, _ => none)
  else none
theorem ll66_203 (D : sm_D) {R : sm_S} : ∀ (pc : Nat) (ls st : List Value) (D' : sm_D) (M : sm_M) (v : sm_S), (lf66_203 D) pc ls st D' M = some v → (fun v => v = R) v → sm_WJ smT smCl smSa shM f66 1 pc ls st D' M R := by
  intro pc ls st D' M v h hv
  unfold lf66_203 at h
  by_cases hp0 : pc = 208
  · subst hp0
    rw [if_pos (show (208 : Nat) = 208 from rfl)] at h
    split at h
    · skip
      have hv : v = R := hv
      subst hv
      exact w66_208  h
    · cases h
  · rw [if_neg hp0] at h
    cases h
set_option maxRecDepth 20000 in
set_option maxHeartbeats 4000000 in
theorem w66_203 {g0 g1 g2 g3 g4 : Value} {D : sm_D} {M : sm_M} {R : sm_S} (h : jR_fits_203 D M = some R) : sm_WJ smT smCl smSa shM f66 1 203 [g0, g1, g2, g3, g4] [] D M R := by
  have e : jR_fits_203 D M = (sm_run shM smSa cal66 c66 true (fun a D M => some (a, D, M)) (lf66_203 D) 85 (c66.drop 71) [g0, g1, g2, g3, g4] [] D M : Option (sm_S)) := rfl
  exact sm_blk (ρ := sm_S) (gd := (fun v => v = R)) (kx := 66) (i := 71) smVM rfl (by decide) ck66 (fun a D M v e1 e2 => by cases e1; exact e2.symm) (ll66_203 D) rfl (e.symm.trans h) rfl
noncomputable def lf66_207 (D : sm_D) : Nat → List Value → List Value → sm_D → sm_M → Option (sm_S) := fun pc ls st D' M =>
  if pc = 208 then (match ls, st with
    | [gl0, gl1, gl2, gl3, gl4], [.int bs0] => (jR_fits_208 bs0 D' M)
    | _, _ => none)
  else none
theorem ll66_207 (D : sm_D) {R : sm_S} : ∀ (pc : Nat) (ls st : List Value) (D' : sm_D) (M : sm_M) (v : sm_S), (lf66_207 D) pc ls st D' M = some v → (fun v => v = R) v → sm_WJ smT smCl smSa shM f66 1 pc ls st D' M R := by
  intro pc ls st D' M v h hv
  unfold lf66_207 at h
  by_cases hp0 : pc = 208
  · subst hp0
    rw [if_pos (show (208 : Nat) = 208 from rfl)] at h
    split at h
    · skip
      have hv : v = R := hv
      subst hv
      exact w66_208  h
    · cases h
  · rw [if_neg hp0] at h
    cases h
set_option maxRecDepth 20000 in
set_option maxHeartbeats 4000000 in
theorem w66_207 {g0 g1 g2 g3 g4 : Value} {D : sm_D} {M : sm_M} {R : sm_S} (h : jR_fits_207 D M = some R) : sm_WJ smT smCl smSa shM f66 1 207 [g0, g1, g2, g3, g4] [] D M R := by
  have e : jR_fits_207 D M = (sm_run shM smSa cal66 c66 true (fun a D M => some (a, D, M)) (lf66_207 D) 85 (c66.drop 73) [g0, g1, g2, g3, g4] [] D M : Option (sm_S)) := rfl
  exact sm_blk (ρ := sm_S) (gd := (fun v => v = R)) (kx := 66) (i := 73) smVM rfl (by decide) ck66 (fun a D M v e1 e2 => by cases e1; exact e2.symm) (ll66_207 D) rfl (e.symm.trans h) rfl
noncomputable def lf66_0 (D : sm_D) : Nat → List Value → List Value → sm_D → sm_M → Option (sm_S) := fun pc ls st D' M =>
  if pc = 64 then (match ls, st with
    | [gl0, gl1, .int bl2, gl3, gl4], [] => (jR_fits_64 bl2 D' M)
    | _, _ => none)
  else if pc = 69 then (match ls, st with
    | [gl0, gl1, .int bl2, .int bl3, .int bl4], [] => (jR_fits_69 bl2 bl3 bl4 D' M)
    | _, _ => none)
  else if pc = 122 then (match ls, st with
    | [gl0, gl1, gl2, gl3, gl4], [] => (jR_fits_122 D' M)
    | _, _ => none)
  else if pc = 126 then (match ls, st with
    | [gl0, gl1, gl2, gl3, gl4], [] => (jR_fits_126 D' M)
    | _, _ => none)
  else if pc = 128 then (match ls, st with
    | [gl0, gl1, .int bl2, .int bl3, gl4], [] => (jR_fits_128 bl2 bl3 D' M)
    | _, _ => none)
  else if pc = 203 then (match ls, st with
    | [gl0, gl1, gl2, gl3, gl4], [] => (jR_fits_203 D' M)
    | _, _ => none)
  else if pc = 207 then (match ls, st with
    | [gl0, gl1, gl2, gl3, gl4], [] => (jR_fits_207 D' M)
    | _, _ => none)
  else none
theorem ll66_0 (D : sm_D) {R : sm_S} : ∀ (pc : Nat) (ls st : List Value) (D' : sm_D) (M : sm_M) (v : sm_S), (lf66_0 D) pc ls st D' M = some v → (fun v => v = R) v → sm_WJ smT smCl smSa shM f66 1 pc ls st D' M R := by
  intro pc ls st D' M v h hv
  unfold lf66_0 at h
  by_cases hp0 : pc = 64
  · subst hp0
    rw [if_pos (show (64 : Nat) = 64 from rfl)] at h
    split at h
    · skip
      have hv : v = R := hv
      subst hv
      exact w66_64  h
    · cases h
  · rw [if_neg hp0] at h
    by_cases hp0 : pc = 69
    · subst hp0
      rw [if_pos (show (69 : Nat) = 69 from rfl)] at h
      split at h
      · skip
        have hv : v = R := hv
        subst hv
        exact w66_69  h
      · cases h
    · rw [if_neg hp0] at h
      by_cases hp0 : pc = 122
      · subst hp0
        rw [if_pos (show (122 : Nat) = 122 from rfl)] at h
        split at h
        · skip
          have hv : v = R := hv
          subst hv
          exact w66_122  h
        · cases h
      · rw [if_neg hp0] at h
        by_cases hp0 : pc = 126
        · subst hp0
          rw [if_pos (show (126 : Nat) = 126 from rfl)] at h
          split at h
          · skip
            have hv : v = R := hv
            subst hv
            exact w66_126  h
          · cases h
        · rw [if_neg hp0] at h
          by_cases hp0 : pc = 128
          · subst hp0
            rw [if_pos (show (128 : Nat) = 128 from rfl)] at h
            split at h
            · skip
              have hv : v = R := hv
              subst hv
              exact w66_128  h
            · cases h
          · rw [if_neg hp0] at h
            by_cases hp0 : pc = 203
            · subst hp0
              rw [if_pos (show (203 : Nat) = 203 from rfl)] at h
              split at h
              · skip
                have hv : v = R := hv
                subst hv
                exact w66_203  h
              · cases h
            · rw [if_neg hp0] at h
              by_cases hp0 : pc = 207
              · subst hp0
                rw [if_pos (show (207 : Nat) = 207 from rfl)] at h
                split at h
                · skip
                  have hv : v = R := hv
                  subst hv
                  exact w66_207  h
                · cases h
              · rw [if_neg hp0] at h
                cases h
set_option maxRecDepth 20000 in
set_option maxHeartbeats 4000000 in
theorem we66 {l1 l2 l3 l4 : Int32} {D : sm_D} {M : sm_M} {R : sm_S} (h : jR_fits l1 l2 l3 l4 D M = some R) : sm_WJ smT smCl smSa shM f66 1 0 [.ref 1, .int l1, .int l2, .int l3, .int l4] [] D M R := by
  have e : jR_fits l1 l2 l3 l4 D M = (sm_run shM smSa cal66 c66 true (fun a D M => some (a, D, M)) (lf66_0 D) 85 (c66.drop 0) [.ref 1, .int l1, .int l2, .int l3, .int l4] [] D M : Option (sm_S)) := rfl
  exact sm_blk (ρ := sm_S) (gd := (fun v => v = R)) (kx := 66) (i := 0) smVM rfl (by decide) ck66 (fun a D M v e1 e2 => by cases e1; exact e2.symm) (ll66_0 D) rfl (e.symm.trans h) rfl
theorem m66 {l1 l2 l3 l4 : Int32} {D : sm_D} {M : sm_M} {R : sm_S} (h : jR_fits l1 l2 l3 l4 D M = some R) : sm_MJ smT smCl smSa shM f66 1 [.ref 1, .int l1, .int l2, .int l3, .int l4] D M R :=
  sm_met (by decide) (Nat.le_of_ble_eq_true rfl) (List.all_eq_true.mp rfl) (we66  h)

-- jR_add
noncomputable def cal67  : sm_Cal := fun x as D M =>
  if x = 66 then (match as with
    | [.ref 1, .int a1, .int a2, .int a3, .int a4] => (jR_fits a1 a2 a3 a4 D M)
    | _ => none)
  else if x = 40 then (match as with
    | [.ref 1, .int a1, .int a2, .int a3, .int a4] => (jR_emit a1 a2 a3 a4 D M)
    | _ => none)
  else if x = 79 then (match as with
    | [.ref 1] => (jR_restart D M)
    | _ => none)
  else none
theorem ck67  : sm_CalOk smT smCl smP smSa shM 2 cal67 := by
  intro x g as D M R hx h
  unfold cal67 at h
  by_cases hx' : x = 66
  · subst hx'
    rw [if_pos (show (66 : Nat) = 66 from rfl)] at h
    cases (show smP[66]? = some f66 from rfl).symm.trans hx
    split at h
    · skip
      exact Or.inl ⟨1, by omega, m66   h⟩
    · cases h
  · rw [if_neg hx'] at h
    by_cases hx' : x = 40
    · subst hx'
      rw [if_pos (show (40 : Nat) = 40 from rfl)] at h
      cases (show smP[40]? = some f40 from rfl).symm.trans hx
      split at h
      · skip
        exact Or.inl ⟨0, by omega, m40   h⟩
      · cases h
    · rw [if_neg hx'] at h
      by_cases hx' : x = 79
      · subst hx'
        rw [if_pos (show (79 : Nat) = 79 from rfl)] at h
        cases (show smP[79]? = some f79 from rfl).symm.trans hx
        split at h
        · skip
          exact Or.inl ⟨0, by omega, m79   h⟩
        · cases h
      · rw [if_neg hx'] at h
        cases h
set_option maxRecDepth 20000 in
set_option maxHeartbeats 4000000 in
theorem w67_51 {g0 g1 g2 g3 g4 g5 g6 g7 : Value} {D : sm_D} {M : sm_M} {R : sm_S} (h : jR_add_51 D M = some R) : sm_WJ smT smCl smSa shM f67 2 51 [g0, g1, g2, g3, g4, g5, g6, g7] [] D M R := by
  have e : jR_add_51 D M = (sm_run shM smSa cal67 c67 false (fun a D M => some (a, D, M)) sm_noleaf 107 (c67.drop 25) [g0, g1, g2, g3, g4, g5, g6, g7] [] D M : Option (sm_S)) := rfl
  exact sm_blk (ρ := sm_S) (gd := (fun v => v = R)) (kx := 67) (i := 25) smVM rfl (by decide) ck67 (fun a D M v e1 e2 => by cases e1; exact e2.symm) (sm_noleaf_ok) rfl (e.symm.trans h) rfl
set_option maxRecDepth 20000 in
set_option maxHeartbeats 4000000 in
theorem w67_187 {s1 s2 s3 s4 : Int32} {g1 g2 g3 g4 g5 g6 g7 : Value} {D : sm_D} {M : sm_M} {R : sm_S} (h : jR_add_187 s1 s2 s3 s4 D M = some R) : sm_WJ smT smCl smSa shM f67 2 187 [.ref 1, g1, g2, g3, g4, g5, g6, g7] [.int s4, .int s3, .int s2, .int s1, .ref 1] D M R := by
  have e : jR_add_187 s1 s2 s3 s4 D M = (sm_run shM smSa cal67 c67 false (fun a D M => some (a, D, M)) sm_noleaf 107 (c67.drop 96) [.ref 1, g1, g2, g3, g4, g5, g6, g7] [.int s4, .int s3, .int s2, .int s1, .ref 1] D M : Option (sm_S)) := rfl
  exact sm_blk (ρ := sm_S) (gd := (fun v => v = R)) (kx := 67) (i := 96) smVM rfl (by decide) ck67 (fun a D M v e1 e2 => by cases e1; exact e2.symm) (sm_noleaf_ok) rfl (e.symm.trans h) rfl
noncomputable def lf67_165 (D : sm_D) : Nat → List Value → List Value → sm_D → sm_M → Option (sm_S) := fun pc ls st D' M =>
  if pc = 187 then (match ls, st with
    | [.ref 1, gl1, gl2, gl3, gl4, gl5, gl6, gl7], [.int bs4, .int bs3, .int bs2, .int bs1, .ref 1] => (jR_add_187 bs1 bs2 bs3 bs4 D' M)
    | _, _ => none)
  else none
theorem ll67_165 (D : sm_D) {R : sm_S} : ∀ (pc : Nat) (ls st : List Value) (D' : sm_D) (M : sm_M) (v : sm_S), (lf67_165 D) pc ls st D' M = some v → (fun v => v = R) v → sm_WJ smT smCl smSa shM f67 2 pc ls st D' M R := by
  intro pc ls st D' M v h hv
  unfold lf67_165 at h
  by_cases hp0 : pc = 187
  · subst hp0
    rw [if_pos (show (187 : Nat) = 187 from rfl)] at h
    split at h
    · skip
      have hv : v = R := hv
      subst hv
      exact w67_187  h
    · cases h
  · rw [if_neg hp0] at h
    cases h
set_option maxRecDepth 20000 in
set_option maxHeartbeats 4000000 in
theorem w67_165 {s1 s2 s3 : Int32} {g1 g2 g3 g4 g5 g6 g7 : Value} {D : sm_D} {M : sm_M} {R : sm_S} (h : jR_add_165 s1 s2 s3 D M = some R) : sm_WJ smT smCl smSa shM f67 2 165 [.ref 1, g1, g2, g3, g4, g5, g6, g7] [.int s3, .int s2, .int s1, .ref 1] D M R := by
  have e : jR_add_165 s1 s2 s3 D M = (sm_run shM smSa cal67 c67 false (fun a D M => some (a, D, M)) (lf67_165 D) 107 (c67.drop 85) [.ref 1, g1, g2, g3, g4, g5, g6, g7] [.int s3, .int s2, .int s1, .ref 1] D M : Option (sm_S)) := rfl
  exact sm_blk (ρ := sm_S) (gd := (fun v => v = R)) (kx := 67) (i := 85) smVM rfl (by decide) ck67 (fun a D M v e1 e2 => by cases e1; exact e2.symm) (ll67_165 D) rfl (e.symm.trans h) rfl
noncomputable def lf67_150 (D : sm_D) : Nat → List Value → List Value → sm_D → sm_M → Option (sm_S) := fun pc ls st D' M =>
  if pc = 165 then (match ls, st with
    | [.ref 1, gl1, gl2, gl3, gl4, gl5, gl6, gl7], [.int bs3, .int bs2, .int bs1, .ref 1] => (jR_add_165 bs1 bs2 bs3 D' M)
    | _, _ => none)
  else if pc = 187 then (match ls, st with
    | [.ref 1, gl1, gl2, gl3, gl4, gl5, gl6, gl7], [.int bs4, .int bs3, .int bs2, .int bs1, .ref 1] => (jR_add_187 bs1 bs2 bs3 bs4 D' M)
    | _, _ => none)
  else none
theorem ll67_150 (D : sm_D) {R : sm_S} : ∀ (pc : Nat) (ls st : List Value) (D' : sm_D) (M : sm_M) (v : sm_S), (lf67_150 D) pc ls st D' M = some v → (fun v => v = R) v → sm_WJ smT smCl smSa shM f67 2 pc ls st D' M R := by
  intro pc ls st D' M v h hv
  unfold lf67_150 at h
  by_cases hp0 : pc = 165
  · subst hp0
    rw [if_pos (show (165 : Nat) = 165 from rfl)] at h
    split at h
    · skip
      have hv : v = R := hv
      subst hv
      exact w67_165  h
    · cases h
  · rw [if_neg hp0] at h
    by_cases hp0 : pc = 187
    · subst hp0
      rw [if_pos (show (187 : Nat) = 187 from rfl)] at h
      split at h
      · skip
        have hv : v = R := hv
        subst hv
        exact w67_187  h
      · cases h
    · rw [if_neg hp0] at h
      cases h
set_option maxRecDepth 20000 in
set_option maxHeartbeats 4000000 in
theorem w67_150 {l1 l4 l5 l6 l7 s1 s2 s3 : Int32} {g2 g3 : Value} {D : sm_D} {M : sm_M} {R : sm_S} (h : jR_add_150 l1 l4 l5 l6 l7 s1 s2 s3 D M = some R) : sm_WJ smT smCl smSa shM f67 2 150 [.ref 1, .int l1, g2, g3, .int l4, .int l5, .int l6, .int l7] [.int s3, .int s2, .int s1, .ref 1] D M R := by
  have e : jR_add_150 l1 l4 l5 l6 l7 s1 s2 s3 D M = (sm_run shM smSa cal67 c67 false (fun a D M => some (a, D, M)) (lf67_150 D) 107 (c67.drop 79) [.ref 1, .int l1, g2, g3, .int l4, .int l5, .int l6, .int l7] [.int s3, .int s2, .int s1, .ref 1] D M : Option (sm_S)) := rfl
  exact sm_blk (ρ := sm_S) (gd := (fun v => v = R)) (kx := 67) (i := 79) smVM rfl (by decide) ck67 (fun a D M v e1 e2 => by cases e1; exact e2.symm) (ll67_150 D) rfl (e.symm.trans h) rfl
noncomputable def lf67_145 (D : sm_D) : Nat → List Value → List Value → sm_D → sm_M → Option (sm_S) := fun pc ls st D' M =>
  if pc = 150 then (match ls, st with
    | [.ref 1, .int bl1, gl2, gl3, .int bl4, .int bl5, .int bl6, .int bl7], [.int bs3, .int bs2, .int bs1, .ref 1] => (jR_add_150 bl1 bl4 bl5 bl6 bl7 bs1 bs2 bs3 D' M)
    | _, _ => none)
  else none
theorem ll67_145 (D : sm_D) {R : sm_S} : ∀ (pc : Nat) (ls st : List Value) (D' : sm_D) (M : sm_M) (v : sm_S), (lf67_145 D) pc ls st D' M = some v → (fun v => v = R) v → sm_WJ smT smCl smSa shM f67 2 pc ls st D' M R := by
  intro pc ls st D' M v h hv
  unfold lf67_145 at h
  by_cases hp0 : pc = 150
  · subst hp0
    rw [if_pos (show (150 : Nat) = 150 from rfl)] at h
    split at h
    · skip
      have hv : v = R := hv
      subst hv
      exact w67_150  h
    · cases h
  · rw [if_neg hp0] at h
    cases h
set_option maxRecDepth 20000 in
set_option maxHeartbeats 4000000 in
theorem w67_145 {l1 l4 l5 l6 l7 s1 s2 : Int32} {g2 g3 : Value} {D : sm_D} {M : sm_M} {R : sm_S} (h : jR_add_145 l1 l4 l5 l6 l7 s1 s2 D M = some R) : sm_WJ smT smCl smSa shM f67 2 145 [.ref 1, .int l1, g2, g3, .int l4, .int l5, .int l6, .int l7] [.int s2, .int s1, .ref 1] D M R := by
  have e : jR_add_145 l1 l4 l5 l6 l7 s1 s2 D M = (sm_run shM smSa cal67 c67 false (fun a D M => some (a, D, M)) (lf67_145 D) 107 (c67.drop 76) [.ref 1, .int l1, g2, g3, .int l4, .int l5, .int l6, .int l7] [.int s2, .int s1, .ref 1] D M : Option (sm_S)) := rfl
  exact sm_blk (ρ := sm_S) (gd := (fun v => v = R)) (kx := 67) (i := 76) smVM rfl (by decide) ck67 (fun a D M v e1 e2 => by cases e1; exact e2.symm) (ll67_145 D) rfl (e.symm.trans h) rfl
noncomputable def lf67_135 (D : sm_D) : Nat → List Value → List Value → sm_D → sm_M → Option (sm_S) := fun pc ls st D' M =>
  if pc = 145 then (match ls, st with
    | [.ref 1, .int bl1, gl2, gl3, .int bl4, .int bl5, .int bl6, .int bl7], [.int bs2, .int bs1, .ref 1] => (jR_add_145 bl1 bl4 bl5 bl6 bl7 bs1 bs2 D' M)
    | _, _ => none)
  else if pc = 150 then (match ls, st with
    | [.ref 1, .int bl1, gl2, gl3, .int bl4, .int bl5, .int bl6, .int bl7], [.int bs3, .int bs2, .int bs1, .ref 1] => (jR_add_150 bl1 bl4 bl5 bl6 bl7 bs1 bs2 bs3 D' M)
    | _, _ => none)
  else none
theorem ll67_135 (D : sm_D) {R : sm_S} : ∀ (pc : Nat) (ls st : List Value) (D' : sm_D) (M : sm_M) (v : sm_S), (lf67_135 D) pc ls st D' M = some v → (fun v => v = R) v → sm_WJ smT smCl smSa shM f67 2 pc ls st D' M R := by
  intro pc ls st D' M v h hv
  unfold lf67_135 at h
  by_cases hp0 : pc = 145
  · subst hp0
    rw [if_pos (show (145 : Nat) = 145 from rfl)] at h
    split at h
    · skip
      have hv : v = R := hv
      subst hv
      exact w67_145  h
    · cases h
  · rw [if_neg hp0] at h
    by_cases hp0 : pc = 150
    · subst hp0
      rw [if_pos (show (150 : Nat) = 150 from rfl)] at h
      split at h
      · skip
        have hv : v = R := hv
        subst hv
        exact w67_150  h
      · cases h
    · rw [if_neg hp0] at h
      cases h
set_option maxRecDepth 20000 in
set_option maxHeartbeats 4000000 in
theorem w67_135 {l1 l3 l4 l5 l6 l7 s1 s2 : Int32} {g2 : Value} {D : sm_D} {M : sm_M} {R : sm_S} (h : jR_add_135 l1 l3 l4 l5 l6 l7 s1 s2 D M = some R) : sm_WJ smT smCl smSa shM f67 2 135 [.ref 1, .int l1, g2, .int l3, .int l4, .int l5, .int l6, .int l7] [.int s2, .int s1, .ref 1] D M R := by
  have e : jR_add_135 l1 l3 l4 l5 l6 l7 s1 s2 D M = (sm_run shM smSa cal67 c67 false (fun a D M => some (a, D, M)) (lf67_135 D) 107 (c67.drop 72) [.ref 1, .int l1, g2, .int l3, .int l4, .int l5, .int l6, .int l7] [.int s2, .int s1, .ref 1] D M : Option (sm_S)) := rfl
  exact sm_blk (ρ := sm_S) (gd := (fun v => v = R)) (kx := 67) (i := 72) smVM rfl (by decide) ck67 (fun a D M v e1 e2 => by cases e1; exact e2.symm) (ll67_135 D) rfl (e.symm.trans h) rfl
noncomputable def lf67_121 (D : sm_D) : Nat → List Value → List Value → sm_D → sm_M → Option (sm_S) := fun pc ls st D' M =>
  if pc = 135 then (match ls, st with
    | [.ref 1, .int bl1, gl2, .int bl3, .int bl4, .int bl5, .int bl6, .int bl7], [.int bs2, .int bs1, .ref 1] => (jR_add_135 bl1 bl3 bl4 bl5 bl6 bl7 bs1 bs2 D' M)
    | _, _ => none)
  else none
theorem ll67_121 (D : sm_D) {R : sm_S} : ∀ (pc : Nat) (ls st : List Value) (D' : sm_D) (M : sm_M) (v : sm_S), (lf67_121 D) pc ls st D' M = some v → (fun v => v = R) v → sm_WJ smT smCl smSa shM f67 2 pc ls st D' M R := by
  intro pc ls st D' M v h hv
  unfold lf67_121 at h
  by_cases hp0 : pc = 135
  · subst hp0
    rw [if_pos (show (135 : Nat) = 135 from rfl)] at h
    split at h
    · skip
      have hv : v = R := hv
      subst hv
      exact w67_135  h
    · cases h
  · rw [if_neg hp0] at h
    cases h
set_option maxRecDepth 20000 in
set_option maxHeartbeats 4000000 in
theorem w67_121 {l1 l2 l3 l4 l5 l6 s0 : Int32} {g7 : Value} {D : sm_D} {M : sm_M} {R : sm_S} (h : jR_add_121 l1 l2 l3 l4 l5 l6 s0 D M = some R) : sm_WJ smT smCl smSa shM f67 2 121 [.ref 1, .int l1, .int l2, .int l3, .int l4, .int l5, .int l6, g7] [.int s0] D M R := by
  have e : jR_add_121 l1 l2 l3 l4 l5 l6 s0 D M = (sm_run shM smSa cal67 c67 false (fun a D M => some (a, D, M)) (lf67_121 D) 107 (c67.drop 64) [.ref 1, .int l1, .int l2, .int l3, .int l4, .int l5, .int l6, g7] [.int s0] D M : Option (sm_S)) := rfl
  exact sm_blk (ρ := sm_S) (gd := (fun v => v = R)) (kx := 67) (i := 64) smVM rfl (by decide) ck67 (fun a D M v e1 e2 => by cases e1; exact e2.symm) (ll67_121 D) rfl (e.symm.trans h) rfl
noncomputable def lf67_116 (D : sm_D) : Nat → List Value → List Value → sm_D → sm_M → Option (sm_S) := fun pc ls st D' M =>
  if pc = 121 then (match ls, st with
    | [.ref 1, .int bl1, .int bl2, .int bl3, .int bl4, .int bl5, .int bl6, gl7], [.int bs0] => (jR_add_121 bl1 bl2 bl3 bl4 bl5 bl6 bs0 D' M)
    | _, _ => none)
  else none
theorem ll67_116 (D : sm_D) {R : sm_S} : ∀ (pc : Nat) (ls st : List Value) (D' : sm_D) (M : sm_M) (v : sm_S), (lf67_116 D) pc ls st D' M = some v → (fun v => v = R) v → sm_WJ smT smCl smSa shM f67 2 pc ls st D' M R := by
  intro pc ls st D' M v h hv
  unfold lf67_116 at h
  by_cases hp0 : pc = 121
  · subst hp0
    rw [if_pos (show (121 : Nat) = 121 from rfl)] at h
    split at h
    · skip
      have hv : v = R := hv
      subst hv
      exact w67_121  h
    · cases h
  · rw [if_neg hp0] at h
    cases h
set_option maxRecDepth 20000 in
set_option maxHeartbeats 4000000 in
theorem w67_116 {l1 l2 l3 l4 l5 l6 : Int32} {g7 : Value} {D : sm_D} {M : sm_M} {R : sm_S} (h : jR_add_116 l1 l2 l3 l4 l5 l6 D M = some R) : sm_WJ smT smCl smSa shM f67 2 116 [.ref 1, .int l1, .int l2, .int l3, .int l4, .int l5, .int l6, g7] [] D M R := by
  have e : jR_add_116 l1 l2 l3 l4 l5 l6 D M = (sm_run shM smSa cal67 c67 false (fun a D M => some (a, D, M)) (lf67_116 D) 107 (c67.drop 61) [.ref 1, .int l1, .int l2, .int l3, .int l4, .int l5, .int l6, g7] [] D M : Option (sm_S)) := rfl
  exact sm_blk (ρ := sm_S) (gd := (fun v => v = R)) (kx := 67) (i := 61) smVM rfl (by decide) ck67 (fun a D M v e1 e2 => by cases e1; exact e2.symm) (ll67_116 D) rfl (e.symm.trans h) rfl
noncomputable def lf67_98 (D : sm_D) : Nat → List Value → List Value → sm_D → sm_M → Option (sm_S) := fun pc ls st D' M =>
  if pc = 116 then (match ls, st with
    | [.ref 1, .int bl1, .int bl2, .int bl3, .int bl4, .int bl5, .int bl6, gl7], [] => (jR_add_116 bl1 bl2 bl3 bl4 bl5 bl6 D' M)
    | _, _ => none)
  else if pc = 121 then (match ls, st with
    | [.ref 1, .int bl1, .int bl2, .int bl3, .int bl4, .int bl5, .int bl6, gl7], [.int bs0] => (jR_add_121 bl1 bl2 bl3 bl4 bl5 bl6 bs0 D' M)
    | _, _ => none)
  else none
theorem ll67_98 (D : sm_D) {R : sm_S} : ∀ (pc : Nat) (ls st : List Value) (D' : sm_D) (M : sm_M) (v : sm_S), (lf67_98 D) pc ls st D' M = some v → (fun v => v = R) v → sm_WJ smT smCl smSa shM f67 2 pc ls st D' M R := by
  intro pc ls st D' M v h hv
  unfold lf67_98 at h
  by_cases hp0 : pc = 116
  · subst hp0
    rw [if_pos (show (116 : Nat) = 116 from rfl)] at h
    split at h
    · skip
      have hv : v = R := hv
      subst hv
      exact w67_116  h
    · cases h
  · rw [if_neg hp0] at h
    by_cases hp0 : pc = 121
    · subst hp0
      rw [if_pos (show (121 : Nat) = 121 from rfl)] at h
      split at h
      · skip
        have hv : v = R := hv
        subst hv
        exact w67_121  h
      · cases h
    · rw [if_neg hp0] at h
      cases h
set_option maxRecDepth 20000 in
set_option maxHeartbeats 4000000 in
theorem w67_98 {l1 l2 l3 l4 l5 s0 : Int32} {g6 g7 : Value} {D : sm_D} {M : sm_M} {R : sm_S} (h : jR_add_98 l1 l2 l3 l4 l5 s0 D M = some R) : sm_WJ smT smCl smSa shM f67 2 98 [.ref 1, .int l1, .int l2, .int l3, .int l4, .int l5, g6, g7] [.int s0] D M R := by
  have e : jR_add_98 l1 l2 l3 l4 l5 s0 D M = (sm_run shM smSa cal67 c67 false (fun a D M => some (a, D, M)) (lf67_98 D) 107 (c67.drop 52) [.ref 1, .int l1, .int l2, .int l3, .int l4, .int l5, g6, g7] [.int s0] D M : Option (sm_S)) := rfl
  exact sm_blk (ρ := sm_S) (gd := (fun v => v = R)) (kx := 67) (i := 52) smVM rfl (by decide) ck67 (fun a D M v e1 e2 => by cases e1; exact e2.symm) (ll67_98 D) rfl (e.symm.trans h) rfl
noncomputable def lf67_93 (D : sm_D) : Nat → List Value → List Value → sm_D → sm_M → Option (sm_S) := fun pc ls st D' M =>
  if pc = 98 then (match ls, st with
    | [.ref 1, .int bl1, .int bl2, .int bl3, .int bl4, .int bl5, gl6, gl7], [.int bs0] => (jR_add_98 bl1 bl2 bl3 bl4 bl5 bs0 D' M)
    | _, _ => none)
  else none
theorem ll67_93 (D : sm_D) {R : sm_S} : ∀ (pc : Nat) (ls st : List Value) (D' : sm_D) (M : sm_M) (v : sm_S), (lf67_93 D) pc ls st D' M = some v → (fun v => v = R) v → sm_WJ smT smCl smSa shM f67 2 pc ls st D' M R := by
  intro pc ls st D' M v h hv
  unfold lf67_93 at h
  by_cases hp0 : pc = 98
  · subst hp0
    rw [if_pos (show (98 : Nat) = 98 from rfl)] at h
    split at h
    · skip
      have hv : v = R := hv
      subst hv
      exact w67_98  h
    · cases h
  · rw [if_neg hp0] at h
    cases h
set_option maxRecDepth 20000 in
set_option maxHeartbeats 4000000 in
theorem w67_93 {l1 l2 l3 l4 l5 : Int32} {g6 g7 : Value} {D : sm_D} {M : sm_M} {R : sm_S} (h : jR_add_93 l1 l2 l3 l4 l5 D M = some R) : sm_WJ smT smCl smSa shM f67 2 93 [.ref 1, .int l1, .int l2, .int l3, .int l4, .int l5, g6, g7] [] D M R := by
  have e : jR_add_93 l1 l2 l3 l4 l5 D M = (sm_run shM smSa cal67 c67 false (fun a D M => some (a, D, M)) (lf67_93 D) 107 (c67.drop 49) [.ref 1, .int l1, .int l2, .int l3, .int l4, .int l5, g6, g7] [] D M : Option (sm_S)) := rfl
  exact sm_blk (ρ := sm_S) (gd := (fun v => v = R)) (kx := 67) (i := 49) smVM rfl (by decide) ck67 (fun a D M v e1 e2 => by cases e1; exact e2.symm) (ll67_93 D) rfl (e.symm.trans h) rfl
noncomputable def lf67_79 (D : sm_D) : Nat → List Value → List Value → sm_D → sm_M → Option (sm_S) := fun pc ls st D' M =>
  if pc = 93 then (match ls, st with
    | [.ref 1, .int bl1, .int bl2, .int bl3, .int bl4, .int bl5, gl6, gl7], [] => (jR_add_93 bl1 bl2 bl3 bl4 bl5 D' M)
    | _, _ => none)
  else if pc = 98 then (match ls, st with
    | [.ref 1, .int bl1, .int bl2, .int bl3, .int bl4, .int bl5, gl6, gl7], [.int bs0] => (jR_add_98 bl1 bl2 bl3 bl4 bl5 bs0 D' M)
    | _, _ => none)
  else none
theorem ll67_79 (D : sm_D) {R : sm_S} : ∀ (pc : Nat) (ls st : List Value) (D' : sm_D) (M : sm_M) (v : sm_S), (lf67_79 D) pc ls st D' M = some v → (fun v => v = R) v → sm_WJ smT smCl smSa shM f67 2 pc ls st D' M R := by
  intro pc ls st D' M v h hv
  unfold lf67_79 at h
  by_cases hp0 : pc = 93
  · subst hp0
    rw [if_pos (show (93 : Nat) = 93 from rfl)] at h
    split at h
    · skip
      have hv : v = R := hv
      subst hv
      exact w67_93  h
    · cases h
  · rw [if_neg hp0] at h
    by_cases hp0 : pc = 98
    · subst hp0
      rw [if_pos (show (98 : Nat) = 98 from rfl)] at h
      split at h
      · skip
        have hv : v = R := hv
        subst hv
        exact w67_98  h
      · cases h
    · rw [if_neg hp0] at h
      cases h
set_option maxRecDepth 20000 in
set_option maxHeartbeats 4000000 in
theorem w67_79 {l1 l2 l3 l4 s0 : Int32} {g5 g6 g7 : Value} {D : sm_D} {M : sm_M} {R : sm_S} (h : jR_add_79 l1 l2 l3 l4 s0 D M = some R) : sm_WJ smT smCl smSa shM f67 2 79 [.ref 1, .int l1, .int l2, .int l3, .int l4, g5, g6, g7] [.int s0] D M R := by
  have e : jR_add_79 l1 l2 l3 l4 s0 D M = (sm_run shM smSa cal67 c67 false (fun a D M => some (a, D, M)) (lf67_79 D) 107 (c67.drop 42) [.ref 1, .int l1, .int l2, .int l3, .int l4, g5, g6, g7] [.int s0] D M : Option (sm_S)) := rfl
  exact sm_blk (ρ := sm_S) (gd := (fun v => v = R)) (kx := 67) (i := 42) smVM rfl (by decide) ck67 (fun a D M v e1 e2 => by cases e1; exact e2.symm) (ll67_79 D) rfl (e.symm.trans h) rfl
noncomputable def lf67_0 (D : sm_D) : Nat → List Value → List Value → sm_D → sm_M → Option (sm_S) := fun pc ls st D' M =>
  if pc = 51 then (match ls, st with
    | [gl0, gl1, gl2, gl3, gl4, gl5, gl6, gl7], [] => (jR_add_51 D' M)
    | _, _ => none)
  else if pc = 79 then (match ls, st with
    | [.ref 1, .int bl1, .int bl2, .int bl3, .int bl4, gl5, gl6, gl7], [.int bs0] => (jR_add_79 bl1 bl2 bl3 bl4 bs0 D' M)
    | _, _ => none)
  else none
theorem ll67_0 (D : sm_D) {R : sm_S} : ∀ (pc : Nat) (ls st : List Value) (D' : sm_D) (M : sm_M) (v : sm_S), (lf67_0 D) pc ls st D' M = some v → (fun v => v = R) v → sm_WJ smT smCl smSa shM f67 2 pc ls st D' M R := by
  intro pc ls st D' M v h hv
  unfold lf67_0 at h
  by_cases hp0 : pc = 51
  · subst hp0
    rw [if_pos (show (51 : Nat) = 51 from rfl)] at h
    split at h
    · skip
      have hv : v = R := hv
      subst hv
      exact w67_51  h
    · cases h
  · rw [if_neg hp0] at h
    by_cases hp0 : pc = 79
    · subst hp0
      rw [if_pos (show (79 : Nat) = 79 from rfl)] at h
      split at h
      · skip
        have hv : v = R := hv
        subst hv
        exact w67_79  h
      · cases h
    · rw [if_neg hp0] at h
      cases h
set_option maxRecDepth 20000 in
set_option maxHeartbeats 4000000 in
theorem we67 {l1 l2 l3 l4 : Int32} {D : sm_D} {M : sm_M} {R : sm_S} (h : jR_add l1 l2 l3 l4 D M = some R) : sm_WJ smT smCl smSa shM f67 2 0 [.ref 1, .int l1, .int l2, .int l3, .int l4, .retAddr 0, .retAddr 0, .retAddr 0] [] D M R := by
  have e : jR_add l1 l2 l3 l4 D M = (sm_run shM smSa cal67 c67 false (fun a D M => some (a, D, M)) (lf67_0 D) 107 (c67.drop 0) [.ref 1, .int l1, .int l2, .int l3, .int l4, .retAddr 0, .retAddr 0, .retAddr 0] [] D M : Option (sm_S)) := rfl
  exact sm_blk (ρ := sm_S) (gd := (fun v => v = R)) (kx := 67) (i := 0) smVM rfl (by decide) ck67 (fun a D M v e1 e2 => by cases e1; exact e2.symm) (ll67_0 D) rfl (e.symm.trans h) rfl
theorem m67 {l1 l2 l3 l4 : Int32} {D : sm_D} {M : sm_M} {R : sm_S} (h : jR_add l1 l2 l3 l4 D M = some R) : sm_MJ smT smCl smSa shM f67 2 [.ref 1, .int l1, .int l2, .int l3, .int l4] D M R :=
  sm_met (by decide) (Nat.le_of_ble_eq_true rfl) (List.all_eq_true.mp rfl) (we67  h)

-- jR_isCode
set_option maxRecDepth 20000 in
set_option maxHeartbeats 4000000 in
theorem w68_50 {s0 : Int32} {g0 g1 g2 g3 g4 : Value} {D : sm_D} {M : sm_M} {R : sm_S} (h : jR_isCode_50 s0 D M = some R) : sm_WJ smT smCl smSa shM f68 0 50 [g0, g1, g2, g3, g4] [.int s0] D M R := by
  have e : jR_isCode_50 s0 D M = (sm_run shM smSa sm_nocal c68 true (fun a D M => some (a, D, M)) sm_noleaf 35 (c68.drop 29) [g0, g1, g2, g3, g4] [.int s0] D M : Option (sm_S)) := rfl
  exact sm_blk (ρ := sm_S) (gd := (fun v => v = R)) (kx := 68) (i := 29) smVM rfl (by decide) (sm_nocal_ok smT smCl smP smSa shM 0) (fun a D M v e1 e2 => by cases e1; exact e2.symm) (sm_noleaf_ok) rfl (e.symm.trans h) rfl
noncomputable def lf68_49 (D : sm_D) : Nat → List Value → List Value → sm_D → sm_M → Option (sm_S) := fun pc ls st D' M =>
  if pc = 50 then (match ls, st with
    | [gl0, gl1, gl2, gl3, gl4], [.int bs0] => (jR_isCode_50 bs0 D' M)
    | _, _ => none)
  else none
theorem ll68_49 (D : sm_D) {R : sm_S} : ∀ (pc : Nat) (ls st : List Value) (D' : sm_D) (M : sm_M) (v : sm_S), (lf68_49 D) pc ls st D' M = some v → (fun v => v = R) v → sm_WJ smT smCl smSa shM f68 0 pc ls st D' M R := by
  intro pc ls st D' M v h hv
  unfold lf68_49 at h
  by_cases hp0 : pc = 50
  · subst hp0
    rw [if_pos (show (50 : Nat) = 50 from rfl)] at h
    split at h
    · skip
      have hv : v = R := hv
      subst hv
      exact w68_50  h
    · cases h
  · rw [if_neg hp0] at h
    cases h
set_option maxRecDepth 20000 in
set_option maxHeartbeats 4000000 in
theorem w68_49 {g0 g1 g2 g3 g4 : Value} {D : sm_D} {M : sm_M} {R : sm_S} (h : jR_isCode_49 D M = some R) : sm_WJ smT smCl smSa shM f68 0 49 [g0, g1, g2, g3, g4] [] D M R := by
  have e : jR_isCode_49 D M = (sm_run shM smSa sm_nocal c68 true (fun a D M => some (a, D, M)) (lf68_49 D) 35 (c68.drop 28) [g0, g1, g2, g3, g4] [] D M : Option (sm_S)) := rfl
  exact sm_blk (ρ := sm_S) (gd := (fun v => v = R)) (kx := 68) (i := 28) smVM rfl (by decide) (sm_nocal_ok smT smCl smP smSa shM 0) (fun a D M v e1 e2 => by cases e1; exact e2.symm) (ll68_49 D) rfl (e.symm.trans h) rfl
noncomputable def lf68_0 (D : sm_D) : Nat → List Value → List Value → sm_D → sm_M → Option (sm_S) := fun pc ls st D' M =>
  if pc = 49 then (match ls, st with
    | [gl0, gl1, gl2, gl3, gl4], [] => (jR_isCode_49 D' M)
    | _, _ => none)
  else if pc = 50 then (match ls, st with
    | [gl0, gl1, gl2, gl3, gl4], [.int bs0] => (jR_isCode_50 bs0 D' M)
    | _, _ => none)
  else none
theorem ll68_0 (D : sm_D) {R : sm_S} : ∀ (pc : Nat) (ls st : List Value) (D' : sm_D) (M : sm_M) (v : sm_S), (lf68_0 D) pc ls st D' M = some v → (fun v => v = R) v → sm_WJ smT smCl smSa shM f68 0 pc ls st D' M R := by
  intro pc ls st D' M v h hv
  unfold lf68_0 at h
  by_cases hp0 : pc = 49
  · subst hp0
    rw [if_pos (show (49 : Nat) = 49 from rfl)] at h
    split at h
    · skip
      have hv : v = R := hv
      subst hv
      exact w68_49  h
    · cases h
  · rw [if_neg hp0] at h
    by_cases hp0 : pc = 50
    · subst hp0
      rw [if_pos (show (50 : Nat) = 50 from rfl)] at h
      split at h
      · skip
        have hv : v = R := hv
        subst hv
        exact w68_50  h
      · cases h
    · rw [if_neg hp0] at h
      cases h
set_option maxRecDepth 20000 in
set_option maxHeartbeats 4000000 in
theorem we68 {l1 l2 l3 l4 : Int32} {D : sm_D} {M : sm_M} {R : sm_S} (h : jR_isCode l1 l2 l3 l4 D M = some R) : sm_WJ smT smCl smSa shM f68 0 0 [.ref 1, .int l1, .int l2, .int l3, .int l4] [] D M R := by
  have e : jR_isCode l1 l2 l3 l4 D M = (sm_run shM smSa sm_nocal c68 true (fun a D M => some (a, D, M)) (lf68_0 D) 35 (c68.drop 0) [.ref 1, .int l1, .int l2, .int l3, .int l4] [] D M : Option (sm_S)) := rfl
  exact sm_blk (ρ := sm_S) (gd := (fun v => v = R)) (kx := 68) (i := 0) smVM rfl (by decide) (sm_nocal_ok smT smCl smP smSa shM 0) (fun a D M v e1 e2 => by cases e1; exact e2.symm) (ll68_0 D) rfl (e.symm.trans h) rfl
theorem m68 {l1 l2 l3 l4 : Int32} {D : sm_D} {M : sm_M} {R : sm_S} (h : jR_isCode l1 l2 l3 l4 D M = some R) : sm_MJ smT smCl smSa shM f68 0 [.ref 1, .int l1, .int l2, .int l3, .int l4] D M R :=
  sm_met (by decide) (Nat.le_of_ble_eq_true rfl) (List.all_eq_true.mp rfl) (we68  h)

-- jR_has
set_option maxRecDepth 20000 in
set_option maxHeartbeats 4000000 in
theorem w69_47 {s0 : Int32} {g0 g1 g2 g3 : Value} {D : sm_D} {M : sm_M} {R : sm_S} (h : jR_has_47 s0 D M = some R) : sm_WJ smT smCl smSa shM f69 0 47 [g0, g1, g2, g3] [.int s0] D M R := by
  have e : jR_has_47 s0 D M = (sm_run shM smSa sm_nocal c69 true (fun a D M => some (a, D, M)) sm_noleaf 33 (c69.drop 27) [g0, g1, g2, g3] [.int s0] D M : Option (sm_S)) := rfl
  exact sm_blk (ρ := sm_S) (gd := (fun v => v = R)) (kx := 69) (i := 27) smVM rfl (by decide) (sm_nocal_ok smT smCl smP smSa shM 0) (fun a D M v e1 e2 => by cases e1; exact e2.symm) (sm_noleaf_ok) rfl (e.symm.trans h) rfl
noncomputable def lf69_42 (D : sm_D) : Nat → List Value → List Value → sm_D → sm_M → Option (sm_S) := fun pc ls st D' M =>
  if pc = 47 then (match ls, st with
    | [gl0, gl1, gl2, gl3], [.int bs0] => (jR_has_47 bs0 D' M)
    | _, _ => none)
  else none
theorem ll69_42 (D : sm_D) {R : sm_S} : ∀ (pc : Nat) (ls st : List Value) (D' : sm_D) (M : sm_M) (v : sm_S), (lf69_42 D) pc ls st D' M = some v → (fun v => v = R) v → sm_WJ smT smCl smSa shM f69 0 pc ls st D' M R := by
  intro pc ls st D' M v h hv
  unfold lf69_42 at h
  by_cases hp0 : pc = 47
  · subst hp0
    rw [if_pos (show (47 : Nat) = 47 from rfl)] at h
    split at h
    · skip
      have hv : v = R := hv
      subst hv
      exact w69_47  h
    · cases h
  · rw [if_neg hp0] at h
    cases h
set_option maxRecDepth 20000 in
set_option maxHeartbeats 4000000 in
theorem w69_42 {g0 g1 g2 g3 : Value} {D : sm_D} {M : sm_M} {R : sm_S} (h : jR_has_42 D M = some R) : sm_WJ smT smCl smSa shM f69 0 42 [g0, g1, g2, g3] [] D M R := by
  have e : jR_has_42 D M = (sm_run shM smSa sm_nocal c69 true (fun a D M => some (a, D, M)) (lf69_42 D) 33 (c69.drop 24) [g0, g1, g2, g3] [] D M : Option (sm_S)) := rfl
  exact sm_blk (ρ := sm_S) (gd := (fun v => v = R)) (kx := 69) (i := 24) smVM rfl (by decide) (sm_nocal_ok smT smCl smP smSa shM 0) (fun a D M v e1 e2 => by cases e1; exact e2.symm) (ll69_42 D) rfl (e.symm.trans h) rfl
noncomputable def lf69_46 (D : sm_D) : Nat → List Value → List Value → sm_D → sm_M → Option (sm_S) := fun pc ls st D' M =>
  if pc = 47 then (match ls, st with
    | [gl0, gl1, gl2, gl3], [.int bs0] => (jR_has_47 bs0 D' M)
    | _, _ => none)
  else none
theorem ll69_46 (D : sm_D) {R : sm_S} : ∀ (pc : Nat) (ls st : List Value) (D' : sm_D) (M : sm_M) (v : sm_S), (lf69_46 D) pc ls st D' M = some v → (fun v => v = R) v → sm_WJ smT smCl smSa shM f69 0 pc ls st D' M R := by
  intro pc ls st D' M v h hv
  unfold lf69_46 at h
  by_cases hp0 : pc = 47
  · subst hp0
    rw [if_pos (show (47 : Nat) = 47 from rfl)] at h
    split at h
    · skip
      have hv : v = R := hv
      subst hv
      exact w69_47  h
    · cases h
  · rw [if_neg hp0] at h
    cases h
set_option maxRecDepth 20000 in
set_option maxHeartbeats 4000000 in
theorem w69_46 {g0 g1 g2 g3 : Value} {D : sm_D} {M : sm_M} {R : sm_S} (h : jR_has_46 D M = some R) : sm_WJ smT smCl smSa shM f69 0 46 [g0, g1, g2, g3] [] D M R := by
  have e : jR_has_46 D M = (sm_run shM smSa sm_nocal c69 true (fun a D M => some (a, D, M)) (lf69_46 D) 33 (c69.drop 26) [g0, g1, g2, g3] [] D M : Option (sm_S)) := rfl
  exact sm_blk (ρ := sm_S) (gd := (fun v => v = R)) (kx := 69) (i := 26) smVM rfl (by decide) (sm_nocal_ok smT smCl smP smSa shM 0) (fun a D M v e1 e2 => by cases e1; exact e2.symm) (ll69_46 D) rfl (e.symm.trans h) rfl
noncomputable def lf69_28 (D : sm_D) : Nat → List Value → List Value → sm_D → sm_M → Option (sm_S) := fun pc ls st D' M =>
  if pc = 42 then (match ls, st with
    | [gl0, gl1, gl2, gl3], [] => (jR_has_42 D' M)
    | _, _ => none)
  else if pc = 46 then (match ls, st with
    | [gl0, gl1, gl2, gl3], [] => (jR_has_46 D' M)
    | _, _ => none)
  else none
theorem ll69_28 (D : sm_D) {R : sm_S} : ∀ (pc : Nat) (ls st : List Value) (D' : sm_D) (M : sm_M) (v : sm_S), (lf69_28 D) pc ls st D' M = some v → (fun v => v = R) v → sm_WJ smT smCl smSa shM f69 0 pc ls st D' M R := by
  intro pc ls st D' M v h hv
  unfold lf69_28 at h
  by_cases hp0 : pc = 42
  · subst hp0
    rw [if_pos (show (42 : Nat) = 42 from rfl)] at h
    split at h
    · skip
      have hv : v = R := hv
      subst hv
      exact w69_42  h
    · cases h
  · rw [if_neg hp0] at h
    by_cases hp0 : pc = 46
    · subst hp0
      rw [if_pos (show (46 : Nat) = 46 from rfl)] at h
      split at h
      · skip
        have hv : v = R := hv
        subst hv
        exact w69_46  h
      · cases h
    · rw [if_neg hp0] at h
      cases h
set_option maxRecDepth 20000 in
set_option maxHeartbeats 4000000 in
theorem w69_28 {l3 : Int32} {g1 g2 : Value} {D : sm_D} {M : sm_M} {R : sm_S} (h : jR_has_28 l3 D M = some R) : sm_WJ smT smCl smSa shM f69 0 28 [.ref 1, g1, g2, .int l3] [] D M R := by
  have e : jR_has_28 l3 D M = (sm_run shM smSa sm_nocal c69 true (fun a D M => some (a, D, M)) (lf69_28 D) 33 (c69.drop 16) [.ref 1, g1, g2, .int l3] [] D M : Option (sm_S)) := rfl
  exact sm_blk (ρ := sm_S) (gd := (fun v => v = R)) (kx := 69) (i := 16) smVM rfl (by decide) (sm_nocal_ok smT smCl smP smSa shM 0) (fun a D M v e1 e2 => by cases e1; exact e2.symm) (ll69_28 D) rfl (e.symm.trans h) rfl
noncomputable def lf69_14 (D : sm_D) : Nat → List Value → List Value → sm_D → sm_M → Option (sm_S) := fun pc ls st D' M =>
  if pc = 28 then (match ls, st with
    | [.ref 1, gl1, gl2, .int bl3], [] => (jR_has_28 bl3 D' M)
    | _, _ => none)
  else if pc = 46 then (match ls, st with
    | [gl0, gl1, gl2, gl3], [] => (jR_has_46 D' M)
    | _, _ => none)
  else none
theorem ll69_14 (D : sm_D) {R : sm_S} : ∀ (pc : Nat) (ls st : List Value) (D' : sm_D) (M : sm_M) (v : sm_S), (lf69_14 D) pc ls st D' M = some v → (fun v => v = R) v → sm_WJ smT smCl smSa shM f69 0 pc ls st D' M R := by
  intro pc ls st D' M v h hv
  unfold lf69_14 at h
  by_cases hp0 : pc = 28
  · subst hp0
    rw [if_pos (show (28 : Nat) = 28 from rfl)] at h
    split at h
    · skip
      have hv : v = R := hv
      subst hv
      exact w69_28  h
    · cases h
  · rw [if_neg hp0] at h
    by_cases hp0 : pc = 46
    · subst hp0
      rw [if_pos (show (46 : Nat) = 46 from rfl)] at h
      split at h
      · skip
        have hv : v = R := hv
        subst hv
        exact w69_46  h
      · cases h
    · rw [if_neg hp0] at h
      cases h
set_option maxRecDepth 20000 in
set_option maxHeartbeats 4000000 in
theorem w69_14 {l2 l3 : Int32} {g1 : Value} {D : sm_D} {M : sm_M} {R : sm_S} (h : jR_has_14 l2 l3 D M = some R) : sm_WJ smT smCl smSa shM f69 0 14 [.ref 1, g1, .int l2, .int l3] [] D M R := by
  have e : jR_has_14 l2 l3 D M = (sm_run shM smSa sm_nocal c69 true (fun a D M => some (a, D, M)) (lf69_14 D) 33 (c69.drop 8) [.ref 1, g1, .int l2, .int l3] [] D M : Option (sm_S)) := rfl
  exact sm_blk (ρ := sm_S) (gd := (fun v => v = R)) (kx := 69) (i := 8) smVM rfl (by decide) (sm_nocal_ok smT smCl smP smSa shM 0) (fun a D M v e1 e2 => by cases e1; exact e2.symm) (ll69_14 D) rfl (e.symm.trans h) rfl
noncomputable def lf69_0 (D : sm_D) : Nat → List Value → List Value → sm_D → sm_M → Option (sm_S) := fun pc ls st D' M =>
  if pc = 14 then (match ls, st with
    | [.ref 1, gl1, .int bl2, .int bl3], [] => (jR_has_14 bl2 bl3 D' M)
    | _, _ => none)
  else if pc = 46 then (match ls, st with
    | [gl0, gl1, gl2, gl3], [] => (jR_has_46 D' M)
    | _, _ => none)
  else none
theorem ll69_0 (D : sm_D) {R : sm_S} : ∀ (pc : Nat) (ls st : List Value) (D' : sm_D) (M : sm_M) (v : sm_S), (lf69_0 D) pc ls st D' M = some v → (fun v => v = R) v → sm_WJ smT smCl smSa shM f69 0 pc ls st D' M R := by
  intro pc ls st D' M v h hv
  unfold lf69_0 at h
  by_cases hp0 : pc = 14
  · subst hp0
    rw [if_pos (show (14 : Nat) = 14 from rfl)] at h
    split at h
    · skip
      have hv : v = R := hv
      subst hv
      exact w69_14  h
    · cases h
  · rw [if_neg hp0] at h
    by_cases hp0 : pc = 46
    · subst hp0
      rw [if_pos (show (46 : Nat) = 46 from rfl)] at h
      split at h
      · skip
        have hv : v = R := hv
        subst hv
        exact w69_46  h
      · cases h
    · rw [if_neg hp0] at h
      cases h
set_option maxRecDepth 20000 in
set_option maxHeartbeats 4000000 in
theorem we69 {l1 l2 l3 : Int32} {D : sm_D} {M : sm_M} {R : sm_S} (h : jR_has l1 l2 l3 D M = some R) : sm_WJ smT smCl smSa shM f69 0 0 [.ref 1, .int l1, .int l2, .int l3] [] D M R := by
  have e : jR_has l1 l2 l3 D M = (sm_run shM smSa sm_nocal c69 true (fun a D M => some (a, D, M)) (lf69_0 D) 33 (c69.drop 0) [.ref 1, .int l1, .int l2, .int l3] [] D M : Option (sm_S)) := rfl
  exact sm_blk (ρ := sm_S) (gd := (fun v => v = R)) (kx := 69) (i := 0) smVM rfl (by decide) (sm_nocal_ok smT smCl smP smSa shM 0) (fun a D M v e1 e2 => by cases e1; exact e2.symm) (ll69_0 D) rfl (e.symm.trans h) rfl
theorem m69 {l1 l2 l3 : Int32} {D : sm_D} {M : sm_M} {R : sm_S} (h : jR_has l1 l2 l3 D M = some R) : sm_MJ smT smCl smSa shM f69 0 [.ref 1, .int l1, .int l2, .int l3] D M R :=
  sm_met (by decide) (Nat.le_of_ble_eq_true rfl) (List.all_eq_true.mp rfl) (we69  h)

-- jR_hasBlock
noncomputable def cal70  : sm_Cal := fun x as D M =>
  if x = 69 then (match as with
    | [.ref 1, .int a1, .int a2, .int a3] => (jR_has a1 a2 a3 D M)
    | _ => none)
  else none
theorem ck70  : sm_CalOk smT smCl smP smSa shM 1 cal70 := by
  intro x g as D M R hx h
  unfold cal70 at h
  by_cases hx' : x = 69
  · subst hx'
    rw [if_pos (show (69 : Nat) = 69 from rfl)] at h
    cases (show smP[69]? = some f69 from rfl).symm.trans hx
    split at h
    · skip
      exact Or.inl ⟨0, by omega, m69   h⟩
    · cases h
  · rw [if_neg hx'] at h
    cases h
set_option maxRecDepth 20000 in
set_option maxHeartbeats 4000000 in
theorem w70_48 {s0 : Int32} {g0 g1 : Value} {D : sm_D} {M : sm_M} {R : sm_S} (h : jR_hasBlock_48 s0 D M = some R) : sm_WJ smT smCl smSa shM f70 1 48 [g0, g1] [.int s0] D M R := by
  have e : jR_hasBlock_48 s0 D M = (sm_run shM smSa cal70 c70 true (fun a D M => some (a, D, M)) sm_noleaf 38 (c70.drop 32) [g0, g1] [.int s0] D M : Option (sm_S)) := rfl
  exact sm_blk (ρ := sm_S) (gd := (fun v => v = R)) (kx := 70) (i := 32) smVM rfl (by decide) ck70 (fun a D M v e1 e2 => by cases e1; exact e2.symm) (sm_noleaf_ok) rfl (e.symm.trans h) rfl
noncomputable def lf70_47 (D : sm_D) : Nat → List Value → List Value → sm_D → sm_M → Option (sm_S) := fun pc ls st D' M =>
  if pc = 48 then (match ls, st with
    | [gl0, gl1], [.int bs0] => (jR_hasBlock_48 bs0 D' M)
    | _, _ => none)
  else none
theorem ll70_47 (D : sm_D) {R : sm_S} : ∀ (pc : Nat) (ls st : List Value) (D' : sm_D) (M : sm_M) (v : sm_S), (lf70_47 D) pc ls st D' M = some v → (fun v => v = R) v → sm_WJ smT smCl smSa shM f70 1 pc ls st D' M R := by
  intro pc ls st D' M v h hv
  unfold lf70_47 at h
  by_cases hp0 : pc = 48
  · subst hp0
    rw [if_pos (show (48 : Nat) = 48 from rfl)] at h
    split at h
    · skip
      have hv : v = R := hv
      subst hv
      exact w70_48  h
    · cases h
  · rw [if_neg hp0] at h
    cases h
set_option maxRecDepth 20000 in
set_option maxHeartbeats 4000000 in
theorem w70_47 {g0 g1 : Value} {D : sm_D} {M : sm_M} {R : sm_S} (h : jR_hasBlock_47 D M = some R) : sm_WJ smT smCl smSa shM f70 1 47 [g0, g1] [] D M R := by
  have e : jR_hasBlock_47 D M = (sm_run shM smSa cal70 c70 true (fun a D M => some (a, D, M)) (lf70_47 D) 38 (c70.drop 31) [g0, g1] [] D M : Option (sm_S)) := rfl
  exact sm_blk (ρ := sm_S) (gd := (fun v => v = R)) (kx := 70) (i := 31) smVM rfl (by decide) ck70 (fun a D M v e1 e2 => by cases e1; exact e2.symm) (ll70_47 D) rfl (e.symm.trans h) rfl
noncomputable def lf70_0 (D : sm_D) : Nat → List Value → List Value → sm_D → sm_M → Option (sm_S) := fun pc ls st D' M =>
  if pc = 47 then (match ls, st with
    | [gl0, gl1], [] => (jR_hasBlock_47 D' M)
    | _, _ => none)
  else if pc = 48 then (match ls, st with
    | [gl0, gl1], [.int bs0] => (jR_hasBlock_48 bs0 D' M)
    | _, _ => none)
  else none
theorem ll70_0 (D : sm_D) {R : sm_S} : ∀ (pc : Nat) (ls st : List Value) (D' : sm_D) (M : sm_M) (v : sm_S), (lf70_0 D) pc ls st D' M = some v → (fun v => v = R) v → sm_WJ smT smCl smSa shM f70 1 pc ls st D' M R := by
  intro pc ls st D' M v h hv
  unfold lf70_0 at h
  by_cases hp0 : pc = 47
  · subst hp0
    rw [if_pos (show (47 : Nat) = 47 from rfl)] at h
    split at h
    · skip
      have hv : v = R := hv
      subst hv
      exact w70_47  h
    · cases h
  · rw [if_neg hp0] at h
    by_cases hp0 : pc = 48
    · subst hp0
      rw [if_pos (show (48 : Nat) = 48 from rfl)] at h
      split at h
      · skip
        have hv : v = R := hv
        subst hv
        exact w70_48  h
      · cases h
    · rw [if_neg hp0] at h
      cases h
set_option maxRecDepth 20000 in
set_option maxHeartbeats 4000000 in
theorem we70 {l1 : Int32} {D : sm_D} {M : sm_M} {R : sm_S} (h : jR_hasBlock l1 D M = some R) : sm_WJ smT smCl smSa shM f70 1 0 [.ref 1, .int l1] [] D M R := by
  have e : jR_hasBlock l1 D M = (sm_run shM smSa cal70 c70 true (fun a D M => some (a, D, M)) (lf70_0 D) 38 (c70.drop 0) [.ref 1, .int l1] [] D M : Option (sm_S)) := rfl
  exact sm_blk (ρ := sm_S) (gd := (fun v => v = R)) (kx := 70) (i := 0) smVM rfl (by decide) ck70 (fun a D M v e1 e2 => by cases e1; exact e2.symm) (ll70_0 D) rfl (e.symm.trans h) rfl
theorem m70 {l1 : Int32} {D : sm_D} {M : sm_M} {R : sm_S} (h : jR_hasBlock l1 D M = some R) : sm_MJ smT smCl smSa shM f70 1 [.ref 1, .int l1] D M R :=
  sm_met (by decide) (Nat.le_of_ble_eq_true rfl) (List.all_eq_true.mp rfl) (we70  h)

-- jR_wraps
noncomputable def cal71  : sm_Cal := fun x as D M =>
  if x = 18 then (match as with
    | [.ref 1, .int a1, .int a2, .int a3, .int a4] => (jR_find a1 a2 a3 a4 D M)
    | _ => none)
  else if x = 68 then (match as with
    | [.ref 1, .int a1, .int a2, .int a3, .int a4] => (jR_isCode a1 a2 a3 a4 D M)
    | _ => none)
  else none
theorem ck71  : sm_CalOk smT smCl smP smSa shM 2 cal71 := by
  intro x g as D M R hx h
  unfold cal71 at h
  by_cases hx' : x = 18
  · subst hx'
    rw [if_pos (show (18 : Nat) = 18 from rfl)] at h
    cases (show smP[18]? = some f18 from rfl).symm.trans hx
    split at h
    · skip
      exact Or.inl ⟨1, by omega, m18   h⟩
    · cases h
  · rw [if_neg hx'] at h
    by_cases hx' : x = 68
    · subst hx'
      rw [if_pos (show (68 : Nat) = 68 from rfl)] at h
      cases (show smP[68]? = some f68 from rfl).symm.trans hx
      split at h
      · skip
        exact Or.inl ⟨0, by omega, m68   h⟩
      · cases h
    · rw [if_neg hx'] at h
      cases h
set_option maxRecDepth 20000 in
set_option maxHeartbeats 4000000 in
theorem w71_14 {g0 g1 g2 : Value} {D : sm_D} {M : sm_M} {R : sm_S} (h : jR_wraps_14 D M = some R) : sm_WJ smT smCl smSa shM f71 2 14 [g0, g1, g2] [] D M R := by
  have e : jR_wraps_14 D M = (sm_run shM smSa cal71 c71 true (fun a D M => some (a, D, M)) sm_noleaf 61 (c71.drop 8) [g0, g1, g2] [] D M : Option (sm_S)) := rfl
  exact sm_blk (ρ := sm_S) (gd := (fun v => v = R)) (kx := 71) (i := 8) smVM rfl (by decide) ck71 (fun a D M v e1 e2 => by cases e1; exact e2.symm) (sm_noleaf_ok) rfl (e.symm.trans h) rfl
set_option maxRecDepth 20000 in
set_option maxHeartbeats 4000000 in
theorem w71_87 {s0 : Int32} {g0 g1 g2 : Value} {D : sm_D} {M : sm_M} {R : sm_S} (h : jR_wraps_87 s0 D M = some R) : sm_WJ smT smCl smSa shM f71 2 87 [g0, g1, g2] [.int s0] D M R := by
  have e : jR_wraps_87 s0 D M = (sm_run shM smSa cal71 c71 true (fun a D M => some (a, D, M)) sm_noleaf 61 (c71.drop 55) [g0, g1, g2] [.int s0] D M : Option (sm_S)) := rfl
  exact sm_blk (ρ := sm_S) (gd := (fun v => v = R)) (kx := 71) (i := 55) smVM rfl (by decide) ck71 (fun a D M v e1 e2 => by cases e1; exact e2.symm) (sm_noleaf_ok) rfl (e.symm.trans h) rfl
noncomputable def lf71_0 (D : sm_D) : Nat → List Value → List Value → sm_D → sm_M → Option (sm_S) := fun pc ls st D' M =>
  if pc = 14 then (match ls, st with
    | [gl0, gl1, gl2], [] => (jR_wraps_14 D' M)
    | _, _ => none)
  else if pc = 87 then (match ls, st with
    | [gl0, gl1, gl2], [.int bs0] => (jR_wraps_87 bs0 D' M)
    | _, _ => none)
  else none
theorem ll71_0 (D : sm_D) {R : sm_S} : ∀ (pc : Nat) (ls st : List Value) (D' : sm_D) (M : sm_M) (v : sm_S), (lf71_0 D) pc ls st D' M = some v → (fun v => v = R) v → sm_WJ smT smCl smSa shM f71 2 pc ls st D' M R := by
  intro pc ls st D' M v h hv
  unfold lf71_0 at h
  by_cases hp0 : pc = 14
  · subst hp0
    rw [if_pos (show (14 : Nat) = 14 from rfl)] at h
    split at h
    · skip
      have hv : v = R := hv
      subst hv
      exact w71_14  h
    · cases h
  · rw [if_neg hp0] at h
    by_cases hp0 : pc = 87
    · subst hp0
      rw [if_pos (show (87 : Nat) = 87 from rfl)] at h
      split at h
      · skip
        have hv : v = R := hv
        subst hv
        exact w71_87  h
      · cases h
    · rw [if_neg hp0] at h
      cases h
set_option maxRecDepth 20000 in
set_option maxHeartbeats 4000000 in
theorem we71 {l1 l2 : Int32} {D : sm_D} {M : sm_M} {R : sm_S} (h : jR_wraps l1 l2 D M = some R) : sm_WJ smT smCl smSa shM f71 2 0 [.ref 1, .int l1, .int l2] [] D M R := by
  have e : jR_wraps l1 l2 D M = (sm_run shM smSa cal71 c71 true (fun a D M => some (a, D, M)) (lf71_0 D) 61 (c71.drop 0) [.ref 1, .int l1, .int l2] [] D M : Option (sm_S)) := rfl
  exact sm_blk (ρ := sm_S) (gd := (fun v => v = R)) (kx := 71) (i := 0) smVM rfl (by decide) ck71 (fun a D M v e1 e2 => by cases e1; exact e2.symm) (ll71_0 D) rfl (e.symm.trans h) rfl
theorem m71 {l1 l2 : Int32} {D : sm_D} {M : sm_M} {R : sm_S} (h : jR_wraps l1 l2 D M = some R) : sm_MJ smT smCl smSa shM f71 2 [.ref 1, .int l1, .int l2] D M R :=
  sm_met (by decide) (Nat.le_of_ble_eq_true rfl) (List.all_eq_true.mp rfl) (we71  h)

-- jR_opens
noncomputable def cal72  : sm_Cal := fun x as D M =>
  if x = 18 then (match as with
    | [.ref 1, .int a1, .int a2, .int a3, .int a4] => (jR_find a1 a2 a3 a4 D M)
    | _ => none)
  else none
theorem ck72  : sm_CalOk smT smCl smP smSa shM 2 cal72 := by
  intro x g as D M R hx h
  unfold cal72 at h
  by_cases hx' : x = 18
  · subst hx'
    rw [if_pos (show (18 : Nat) = 18 from rfl)] at h
    cases (show smP[18]? = some f18 from rfl).symm.trans hx
    split at h
    · skip
      exact Or.inl ⟨1, by omega, m18   h⟩
    · cases h
  · rw [if_neg hx'] at h
    cases h
set_option maxRecDepth 20000 in
set_option maxHeartbeats 4000000 in
theorem w72_36 {g0 g1 g2 g3 : Value} {D : sm_D} {M : sm_M} {R : sm_S} (h : jR_opens_36 D M = some R) : sm_WJ smT smCl smSa shM f72 2 36 [g0, g1, g2, g3] [] D M R := by
  have e : jR_opens_36 D M = (sm_run shM smSa cal72 c72 true (fun a D M => some (a, D, M)) sm_noleaf 78 (c72.drop 22) [g0, g1, g2, g3] [] D M : Option (sm_S)) := rfl
  exact sm_blk (ρ := sm_S) (gd := (fun v => v = R)) (kx := 72) (i := 22) smVM rfl (by decide) ck72 (fun a D M v e1 e2 => by cases e1; exact e2.symm) (sm_noleaf_ok) rfl (e.symm.trans h) rfl
set_option maxRecDepth 20000 in
set_option maxHeartbeats 4000000 in
theorem w72_93 {l1 l3 s1 s3 s4 s5 s6 : Int32} {g2 : Value} {D : sm_D} {M : sm_M} {R : sm_S} (h : jR_opens_93 l1 l3 s1 s3 s4 s5 s6 D M = some R) : sm_WJ smT smCl smSa shM f72 2 93 [.ref 1, .int l1, g2, .int l3] [.int s6, .int s5, .int s4, .int s3, .ref 1, .int s1, .ref 53] D M R := by
  have e : jR_opens_93 l1 l3 s1 s3 s4 s5 s6 D M = (sm_run shM smSa cal72 c72 true (fun a D M => some (a, D, M)) sm_noleaf 78 (c72.drop 61) [.ref 1, .int l1, g2, .int l3] [.int s6, .int s5, .int s4, .int s3, .ref 1, .int s1, .ref 53] D M : Option (sm_S)) := rfl
  exact sm_blk (ρ := sm_S) (gd := (fun v => v = R)) (kx := 72) (i := 61) smVM rfl (by decide) ck72 (fun a D M v e1 e2 => by cases e1; exact e2.symm) (sm_noleaf_ok) rfl (e.symm.trans h) rfl
noncomputable def lf72_38 (D : sm_D) : Nat → List Value → List Value → sm_D → sm_M → Option (sm_S) := fun pc ls st D' M =>
  if pc = 93 then (match ls, st with
    | [.ref 1, .int bl1, gl2, .int bl3], [.int bs6, .int bs5, .int bs4, .int bs3, .ref 1, .int bs1, .ref 53] => (jR_opens_93 bl1 bl3 bs1 bs3 bs4 bs5 bs6 D' M)
    | _, _ => none)
  else none
theorem ll72_38 (D : sm_D) {R : sm_S} : ∀ (pc : Nat) (ls st : List Value) (D' : sm_D) (M : sm_M) (v : sm_S), (lf72_38 D) pc ls st D' M = some v → (fun v => v = R) v → sm_WJ smT smCl smSa shM f72 2 pc ls st D' M R := by
  intro pc ls st D' M v h hv
  unfold lf72_38 at h
  by_cases hp0 : pc = 93
  · subst hp0
    rw [if_pos (show (93 : Nat) = 93 from rfl)] at h
    split at h
    · skip
      have hv : v = R := hv
      subst hv
      exact w72_93  h
    · cases h
  · rw [if_neg hp0] at h
    cases h
set_option maxRecDepth 20000 in
set_option maxHeartbeats 4000000 in
theorem w72_38 {l1 l2 : Int32} {g3 : Value} {D : sm_D} {M : sm_M} {R : sm_S} (h : jR_opens_38 l1 l2 D M = some R) : sm_WJ smT smCl smSa shM f72 2 38 [.ref 1, .int l1, .int l2, g3] [] D M R := by
  have e : jR_opens_38 l1 l2 D M = (sm_run shM smSa cal72 c72 true (fun a D M => some (a, D, M)) (lf72_38 D) 78 (c72.drop 24) [.ref 1, .int l1, .int l2, g3] [] D M : Option (sm_S)) := rfl
  exact sm_blk (ρ := sm_S) (gd := (fun v => v = R)) (kx := 72) (i := 24) smVM rfl (by decide) ck72 (fun a D M v e1 e2 => by cases e1; exact e2.symm) (ll72_38 D) rfl (e.symm.trans h) rfl
noncomputable def lf72_0 (D : sm_D) : Nat → List Value → List Value → sm_D → sm_M → Option (sm_S) := fun pc ls st D' M =>
  if pc = 36 then (match ls, st with
    | [gl0, gl1, gl2, gl3], [] => (jR_opens_36 D' M)
    | _, _ => none)
  else if pc = 38 then (match ls, st with
    | [.ref 1, .int bl1, .int bl2, gl3], [] => (jR_opens_38 bl1 bl2 D' M)
    | _, _ => none)
  else none
theorem ll72_0 (D : sm_D) {R : sm_S} : ∀ (pc : Nat) (ls st : List Value) (D' : sm_D) (M : sm_M) (v : sm_S), (lf72_0 D) pc ls st D' M = some v → (fun v => v = R) v → sm_WJ smT smCl smSa shM f72 2 pc ls st D' M R := by
  intro pc ls st D' M v h hv
  unfold lf72_0 at h
  by_cases hp0 : pc = 36
  · subst hp0
    rw [if_pos (show (36 : Nat) = 36 from rfl)] at h
    split at h
    · skip
      have hv : v = R := hv
      subst hv
      exact w72_36  h
    · cases h
  · rw [if_neg hp0] at h
    by_cases hp0 : pc = 38
    · subst hp0
      rw [if_pos (show (38 : Nat) = 38 from rfl)] at h
      split at h
      · skip
        have hv : v = R := hv
        subst hv
        exact w72_38  h
      · cases h
    · rw [if_neg hp0] at h
      cases h
set_option maxRecDepth 20000 in
set_option maxHeartbeats 4000000 in
theorem we72 {l1 : Int32} {D : sm_D} {M : sm_M} {R : sm_S} (h : jR_opens l1 D M = some R) : sm_WJ smT smCl smSa shM f72 2 0 [.ref 1, .int l1, .retAddr 0, .retAddr 0] [] D M R := by
  have e : jR_opens l1 D M = (sm_run shM smSa cal72 c72 true (fun a D M => some (a, D, M)) (lf72_0 D) 78 (c72.drop 0) [.ref 1, .int l1, .retAddr 0, .retAddr 0] [] D M : Option (sm_S)) := rfl
  exact sm_blk (ρ := sm_S) (gd := (fun v => v = R)) (kx := 72) (i := 0) smVM rfl (by decide) ck72 (fun a D M v e1 e2 => by cases e1; exact e2.symm) (ll72_0 D) rfl (e.symm.trans h) rfl
theorem m72 {l1 : Int32} {D : sm_D} {M : sm_M} {R : sm_S} (h : jR_opens l1 D M = some R) : sm_MJ smT smCl smSa shM f72 2 [.ref 1, .int l1] D M R :=
  sm_met (by decide) (Nat.le_of_ble_eq_true rfl) (List.all_eq_true.mp rfl) (we72  h)

