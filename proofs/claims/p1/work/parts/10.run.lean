/-! a run of the small machine; a method's contract out of it; loops -/
section
variable {TT : List Cond} {cls : List vw_C} {P : List sm_I} {nm : Nat → String} {LF LP : sm_L4} {LM LN LS : sm_L3} {sa : sm_Sa} {sh : List sm_Sh} {f : sm_I} {d : Nat} {R : sm_S}
abbrev sm_CalOk (TT : List Cond) (cls : List vw_C) (P : List sm_I) (sa : sm_Sa) (sh : List sm_Sh) (d : Nat) (cal : sm_Cal) : Prop :=
  ∀ (x : Nat) (g : sm_I) (as : List Value) (D : sm_D) (M : sm_M) (R' : sm_S), P[x]? = some g → cal x as D M = some R' → (∃ d', d' + 1 ≤ d ∧ sm_MJ TT cls sa sh g d' as D M R') ∨ sm_mx d g as D M R'
theorem sm_run_ok {ρ : Type} {cal : sm_Cal} {zr : Bool} {ret : Int32 → sm_D → sm_M → Option ρ} {leaf : Nat → List Value → List Value → sm_D → sm_M → Option ρ} {gd : ρ → Prop} {kx : Nat}
    (V : sm_V TT cls P nm LF LP LM LN LS sa sh) (hf : P[kx]? = some f) (hz : zr = decide (sm_Ir f = some .boolean)) (hcal : sm_CalOk TT cls P sa sh d cal)
    (hret : ∀ (a : Int32) (D : sm_D) (M : sm_M) (v : ρ), ret a D M = some v → gd v → R = (a, D, M))
    (hleaf : ∀ (pc : Nat) (ls st : List Value) (D : sm_D) (M : sm_M) (v : ρ), leaf pc ls st D M = some v → gd v → sm_WJ TT cls sa sh f d pc ls st D M R) :
    ∀ (n i : Nat) (r : sm_R) (rest : List sm_R), (sm_Ic f).drop i = r :: rest → ∀ (ls st : List Value) (D : sm_D) (M : sm_M) (v : ρ), sm_run sh sa cal (sm_Ic f) zr ret leaf n (r :: rest) ls st D M = some v → gd v → sm_WJ TT cls sa sh f d (sm_pc r) ls st D M R := by
  intro n
  induction n with
  | zero =>
    intro i r rest hr ls st D M v h hv
    cases h
  | succ n ih =>
    intro i r rest hr ls st D M v h hv
    refine sm_st_ok (nx := sm_nx leaf (sm_run sh sa cal (sm_Ic f) zr ret leaf n)) V hf hz hcal hret (fun _ _ _ _ => rfl) ?_ hr h hv
    intro j q t ls st D M v hq h hv
    have h : (match sm_fl q with
      | true => leaf (sm_pc q) ls st D M
      | false => sm_run sh sa cal (sm_Ic f) zr ret leaf n (q :: t) ls st D M) = some v := h
    cases hb : sm_fl q with
    | true => rw [hb] at h; exact hleaf _ _ _ _ _ _ h hv
    | false => rw [hb] at h; exact ih j q t hq ls st D M v h hv
/-- a block: its rows begin at place i -/
theorem sm_blk {ρ : Type} {cal : sm_Cal} {zr : Bool} {ret : Int32 → sm_D → sm_M → Option ρ} {leaf : Nat → List Value → List Value → sm_D → sm_M → Option ρ} {gd : ρ → Prop} {kx : Nat} {pc n i : Nat} {ls st : List Value} {D : sm_D} {M : sm_M} {v : ρ}
    (V : sm_V TT cls P nm LF LP LM LN LS sa sh) (hf : P[kx]? = some f) (hz : zr = decide (sm_Ir f = some .boolean)) (hcal : sm_CalOk TT cls P sa sh d cal)
    (hret : ∀ (a : Int32) (D : sm_D) (M : sm_M) (v : ρ), ret a D M = some v → gd v → R = (a, D, M))
    (hleaf : ∀ (pc : Nat) (ls st : List Value) (D : sm_D) (M : sm_M) (v : ρ), leaf pc ls st D M = some v → gd v → sm_WJ TT cls sa sh f d pc ls st D M R)
    (hpc : (sm_Ic f)[i]?.map sm_pc = some pc) (h : sm_run sh sa cal (sm_Ic f) zr ret leaf n ((sm_Ic f).drop i) ls st D M = some v) (hv : gd v) : sm_WJ TT cls sa sh f d pc ls st D M R := by
  cases hr : (sm_Ic f)[i]? with
  | none => rw [hr] at hpc; cases hpc
  | some r =>
    rw [hr] at hpc
    simp only [Option.map_some, Option.some.injEq] at hpc
    subst hpc
    have hd := sm_drop hr
    rw [hd] at h
    exact sm_run_ok V hf hz hcal hret hleaf n i r _ hd ls st D M v h hv
/-- the contract of a method, from its entry -/
theorem sm_met {as : List Value} {D : sm_D} {M : sm_M} (hy : plainName (sm_Iy f).cls = true) (hl : as.length ≤ sm_Il f) (hc : ∀ v ∈ as, sm_c1 v = true)
    (h : sm_WJ TT cls sa sh f d 0 (as ++ List.replicate (sm_Il f - as.length) (.retAddr 0)) [] D M R) : sm_MJ TT cls sa sh f d as D M R := by
  intro l G sz
  refine Met.ofW (cc := sm_Ib f) (maxL := sm_Il f) (ret := sm_Ir f) (ws' := TT) hy rfl ?_
  intro p e s m args below meth c s₁ B hml hv
  obtain ⟨rfl, hsz, hP, hK, hD0, hst⟩ := hv
  subst hsz
  have hts := atoms_spec (ws := sm_wd TT f) B.pre
  have hown : s.vm.findClass (sm_Iy f).cls = some m.cls := findClass_of_methodNamed B.named
  rw [lg_entry_eq]
  exact h p l e s m _ below meth c G (va_A (sm_ws sh G D M) s.heap.size) ⟨B.exec, B.bytes, hml, B.returns, B.notSynchronized, fun w hw => hts w (List.mem_cons_of_mem _ hw), hown, hK, hst, fun q hq => Or.inr hq⟩ s.heap [] _ hP hD0.self va_S.rf (sm_L_entry hl hc)
end
/-- a loop that ends -/
theorem sm_it_mono {σ ρ : Type} {b : σ → Option (σ ⊕ ρ)} {r : ρ} : ∀ {n : Nat} {s : σ}, sm_it b n s = some r → ∀ m, n ≤ m → sm_it b m s = some r
  | 0, _, h, _, _ => by cases h
  | n + 1, s, h, m, hm => by
    obtain ⟨m, rfl⟩ : ∃ k, m = k + 1 := ⟨m - 1, by omega⟩
    unfold sm_it at h ⊢
    split at h
    · exact sm_it_mono h m (by omega)
    · exact h
    · cases h
noncomputable def sm_lp {σ ρ : Type} (b : σ → Option (σ ⊕ ρ)) (s : σ) : Option ρ :=
  haveI := Classical.propDecidable (∃ (n : Nat) (r : ρ), sm_it b n s = some r)
  if h : ∃ (n : Nat) (r : ρ), sm_it b n s = some r then some (Classical.choose (Classical.choose_spec h)) else none
theorem sm_lp_of {σ ρ : Type} {b : σ → Option (σ ⊕ ρ)} {s : σ} {n : Nat} {r : ρ} (h : sm_it b n s = some r) : sm_lp b s = some r := by
  have hx : ∃ (n : Nat) (r : ρ), sm_it b n s = some r := ⟨n, r, h⟩
  unfold sm_lp
  rw [dif_pos hx]
  have h1 := Classical.choose_spec (Classical.choose_spec hx)
  have h2 := sm_it_mono h (max n (Classical.choose hx)) (by omega)
  have h3 := sm_it_mono h1 (max n (Classical.choose hx)) (by omega)
  rw [h3] at h2
  exact h2
theorem sm_lp_it {σ ρ : Type} {b : σ → Option (σ ⊕ ρ)} {s : σ} {r : ρ} (h : sm_lp b s = some r) : ∃ n, sm_it b n s = some r := by
  unfold sm_lp at h
  split at h
  · rename_i hx
    have h1 := Classical.choose_spec (Classical.choose_spec hx)
    rw [Option.some.inj h] at h1
    exact ⟨_, h1⟩
  · cases h
theorem sm_lp_eq {σ ρ : Type} {b : σ → Option (σ ⊕ ρ)} {s s' : σ} (h : b s = some (.inl s')) : sm_lp b s = sm_lp b s' := by
  cases h1 : sm_lp b s' with
  | some r =>
    obtain ⟨n, hn⟩ := sm_lp_it h1
    exact sm_lp_of (n := n + 1) (by unfold sm_it; rw [h]; exact hn)
  | none =>
    cases h2 : sm_lp b s with
    | none => rfl
    | some r =>
      obtain ⟨n, hn⟩ := sm_lp_it h2
      cases n with
      | zero => cases hn
      | succ n =>
        unfold sm_it at hn
        rw [h] at hn
        rw [sm_lp_of hn] at h1
        cases h1
theorem sm_lp_end {σ ρ : Type} {b : σ → Option (σ ⊕ ρ)} {s : σ} {r : ρ} (h : b s = some (.inr r)) : sm_lp b s = some r := sm_lp_of (n := 1) (by unfold sm_it; rw [h])
/-- a property of a loop's states, from its end backwards -/
theorem sm_lp_ind {σ ρ : Type} {b : σ → Option (σ ⊕ ρ)} {r : ρ} (W : σ → Prop) (hs : ∀ (s : σ) (v : σ ⊕ ρ), b s = some v → (∀ s', v = .inl s' → W s') → (∀ r', v = .inr r' → r' = r) → W s) : ∀ {s : σ}, sm_lp b s = some r → W s := by
  intro s h
  obtain ⟨n, hn⟩ := sm_lp_it h
  clear h
  induction n generalizing s with
  | zero => cases hn
  | succ n ih =>
    unfold sm_it at hn
    split at hn
    · rename_i s' he
      exact hs s _ he (fun q hq => by cases hq; exact ih hn) (fun q hq => by cases hq)
    · rename_i q he
      exact hs s _ he (fun q hq => by cases hq) (fun q' hq => by cases hq; exact Option.some.inj hn)
    · cases hn
