/-! the classes, at the start -/
theorem st_K {args : Array Value} {s : State} (hts : ∀ w ∈ smT, w.before args s = true) : ∃ (D : va_G) (cI cZ : ClassId), va_K D smCl [(cI, .int), (cZ, .boolean)] s := by
  have hc : ∀ (c : Nat), ∃ (cC : ClassId) (iS : Nat → Nat), ∀ q : vw_C, smCl[c]? = some q → u_Kn s q.1 q.2.1 q.2.2 cC iS := by
    intro c
    match c with
    | 0 =>
      obtain ⟨cC, iS, h⟩ := u_known (T := tF0) (N := 9) hts uw0 (hts (.instantiable "TypedMill" 9) (sm_mem1 123 (by decide +kernel) (by decide +kernel)))
      exact ⟨cC, iS, fun q hq => by cases hq; exact h⟩
    | 1 =>
      obtain ⟨cC, iS, h⟩ := u_known (T := tF1) (N := 8) hts uw1 (hts (.instantiable "TypedMill$Types" 8) (sm_mem1 131 (by decide +kernel) (by decide +kernel)))
      exact ⟨cC, iS, fun q hq => by cases hq; exact h⟩
    | 2 =>
      obtain ⟨cC, iS, h⟩ := u_known (T := tF2) (N := 7) hts uw2 (hts (.instantiable "TypedMill$Expressions" 7) (sm_mem1 187 (by decide +kernel) (by decide +kernel)))
      exact ⟨cC, iS, fun q hq => by cases hq; exact h⟩
    | 3 =>
      obtain ⟨cC, iS, h⟩ := u_known (T := tF3) (N := 4) hts uw3 (hts (.instantiable "TypedMill$Typing" 4) (sm_mem1 230 (by decide +kernel) (by decide +kernel)))
      exact ⟨cC, iS, fun q hq => by cases hq; exact h⟩
    | 4 =>
      obtain ⟨cC, iS, h⟩ := u_known (T := tF4) (N := 10) hts uw4 (hts (.instantiable "TypedMill$Evaluator" 10) (sm_mem1 249 (by decide +kernel) (by decide +kernel)))
      exact ⟨cC, iS, fun q hq => by cases hq; exact h⟩
    | 5 =>
      obtain ⟨cC, iS, h⟩ := u_known (T := tF5) (N := 11) hts uw5 (hts (.instantiable "TypedMill$CodeWriter" 11) (sm_mem1 288 (by decide +kernel) (by decide +kernel)))
      exact ⟨cC, iS, fun q hq => by cases hq; exact h⟩
    | 6 =>
      obtain ⟨cC, iS, h⟩ := u_known (T := tF6) (N := 3) hts uw6 (hts (.instantiable "TypedMill$Checker" 3) (sm_mem1 329 (by decide +kernel) (by decide +kernel)))
      exact ⟨cC, iS, fun q hq => by cases hq; exact h⟩
    | 7 =>
      obtain ⟨cC, iS, h⟩ := u_known (T := tF7) (N := 11) hts uw7 (hts (.instantiable "TypedMill$Machine" 11) (sm_mem1 345 (by decide +kernel) (by decide +kernel)))
      exact ⟨cC, iS, fun q hq => by cases hq; exact h⟩
    | 8 =>
      obtain ⟨cC, iS, h⟩ := u_known (T := tF8) (N := 16) hts uw8 (hts (.instantiable "TypedMill$Code" 16) (sm_mem1 386 (by decide +kernel) (by decide +kernel)))
      exact ⟨cC, iS, fun q hq => by cases hq; exact h⟩
    | 9 =>
      obtain ⟨cC, iS, h⟩ := u_known (T := tF9) (N := 84) hts uw9 (hts (.instantiable "TypedMillModel" 84) (sm_mem1 1012 (by decide +kernel) (by decide +kernel)))
      exact ⟨cC, iS, fun q hq => by cases hq; exact h⟩
    | k + 10 => exact ⟨0, fun _ => 0, fun q hq => by cases hq⟩
  obtain ⟨cI, h1, h2⟩ := st_arr (hts (.arrayClass .int) (sm_mem1 185 (by decide +kernel) (by decide +kernel)))
  obtain ⟨cZ, h3, h4⟩ := st_arr (hts (.arrayClass .boolean) (sm_mem1 327 (by decide +kernel) (by decide +kernel)))
  refine ⟨(fun c => Classical.choose (hc c), fun c => Classical.choose (Classical.choose_spec (hc c))), cI, cZ, fun c q hq => Classical.choose_spec (Classical.choose_spec (hc c)) q hq, fun k q hk => ?_⟩
  match k, hk with
  | 0, hk => cases hk; exact ⟨h1, h2⟩
  | 1, hk => cases hk; exact ⟨h3, h4⟩
