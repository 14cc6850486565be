/-! the relation at the start, and at every call -/
section
variable {Mc Mm : sm_M}
theorem rl_0 (h1 : cls0 Mc) (h2 : mdl0 Mm) : Rl pVV [40, 50, 40, 0, 0] Mc Mm := by
  obtain ⟨M1, hT, rfl⟩ := h1
  obtain ⟨M2, hT2, g1, g2, rfl⟩ := h2
  obtain ⟨-, r2, r3, r4, r5⟩ := hT.row (i := 0) (n := 0) (o1 := none) (o2 := none) (o3 := none) rfl
  have no : ∀ {x : Int32}, ty_pr [tyN] x none → x = -1 := fun {x} h => by
    rcases h with ⟨-, e⟩ | ⟨_, _, e, -⟩
    · exact e
    · cases e
  refine Rl.mk (L := [tyN]) (LM := [tyN]) (nC := 0) (nB := 0) (W := fun _ => tyN) (A := fun _ => none) (Or.inl ⟨rfl, rfl⟩) (rl_begin (Or.inl ⟨rfl, rfl⟩) ⟨hT, by decide, rfl, fun t ht => ?_, hT2, by decide, rfl, rfl, fun i t hi => ?_, fun i hi => ?_⟩ ⟨0, by decide, rfl, g1 13 (by decide), fun i hi => absurd hi (by omega), fun i hi => absurd hi (by omega)⟩ ⟨g1 29 (by decide), rfl⟩ ⟨by decide, by decide, rfl, g1 39 (by decide), rfl, g1 38 (by decide), g1 37 (by decide), fun i hi => absurd hi (by omega), fun i hi => absurd hi (by omega), fun i hi => absurd hi (by omega), Or.inl ⟨rfl, fun i hi => absurd hi (by omega), fun i hi => absurd hi (by omega), fun q => absurd q (by omega)⟩⟩)
  · rw [List.mem_singleton.mp ht]
    exact ⟨Or.inl rfl, by decide⟩
  · have hl := (List.getElem?_eq_some_iff.mp hi).1
    have e : i = 0 := by
      have : i < 1 := hl
      omega
    subst e
    exact ⟨0, hi, rfl⟩
  · have e : i = 0 := by
      have : i < 1 := hi
      omega
    subst e
    refine ⟨?_, ?_, ?_, ?_⟩
    · exact (congrFun (g2 8 (by decide)) 0).trans r2.symm
    · exact (no r3).symm
    · exact (no r4).symm
    · exact (no r5).symm
theorem rl_calls {o d0 d1 d2 d3 d4 : Nat} {a1 a2 a3 a4 a5 : Int32} (h : Rl pVV [d0, d1, d2, d3, d4] Mc Mm) : lw_step o a1 a2 a3 a4 a5 d0 d1 d2 d3 d4 Mc Mm (Rl pVV) := by
  obtain ⟨p, q, e3, e4, L, LM, nC, nB, W, A, hD, hp, h⟩ := h
  cases hD
  match o with
  | 0 => exact q_type hp h
  | 1 => exact q_size hp h
  | 2 => exact q_make hp h
  | 3 => exact q_is hp h
  | 4 => exact q_ev hp h
  | 5 => exact q_steps hp h
  | 6 => exact q_co hp h
  | 7 => exact q_clear hp h
  | 8 => exact q_block hp h
  | 9 => exact q_add hp h
  | 10 => exact q_check hp h
  | 11 => exact q_ins hp h
  | 12 => exact q_look hp h
  | 13 => exact q_run hp h
  | 14 => exact q_state hp h
  | 15 => exact q_reg hp h
  | k + 16 => exact q_reg hp h
end
