/-! the reference's typing: variables -/
theorem z_var {M0 M : sm_M} {LM LM' env : List Ty} {d e v b : Nat} (hd : d < 60) (hX : zX M0 LM LM' env (d + 1) M) (h18 : M 18 d = nI e) (he : e < 40) (h19 : M 19 d = nI 0) (hk : M0 12 e = nI 1) (hv : v ≤ 20) (h13 : M0 13 e = nI v) (hl : env.length ≤ 16) : zQ M0 LM (fun t => env[v]? = some t) b LM' env d M := by
  obtain ⟨h1, h2, h3, h20, h21, h23, hq⟩ := id hX
  have e12 : M 12 e = nI 1 := by rw [hq 12 (by decide) (by decide)]; exact hk
  have e13 : M 13 e = nI v := by rw [hq 13 (by decide) (by decide)]; exact h13
  have ke : ∀ {ρ : Type} {q : Option ρ}, sm_ck (nI e) 40 q = q := ck_nI he (by decide)
  have ce : (nI e).toNatClampNeg = e := nI_clamp (by omega)
  have o : ∀ q, q ≠ 1 → q ≠ 19 → ∀ y : Int32, sm_up (sm_up M 19 d (nI 1)) 1 20 y q = M q := fun q a b y => by rw [up_ne a, up_ne b]
  have o21 : ∀ y : Int32, sm_up (sm_up M 19 d (nI 1)) 1 20 y 1 21 = nI env.length := fun y => by rw [up_as (by decide), up_ne (by decide)]; exact h21
  have h0 : (0 : Int32) < M 1 20 := by rw [h20]; exact nI_lt (a := 0) (by omega) (by omega)
  have st : jR_typeNext [] M = (if nI v < nI env.length then jR_typeNext_342 (nI e) 1 [] (sm_up (sm_up M 19 d (nI 1)) 1 20 (nI d)) else jR_typeNext_342 (nI e) 0 [] (sm_up (sm_up M 19 d (nI 1)) 1 20 (nI d))) := by
    rw [z_next (by omega) h20 h18 he h19 e12 (by decide), if_neg (show ¬ nI 0 = 1 by decide)]
    unfold jR_typeNext_112 jR_typeNext_127 jR_typeNext_142
    rw [if_neg (show ¬ nI 0 = 1 by decide), if_neg (show ¬ nI 0 = 2 by decide), if_neg (show ¬ nI 0 < nI (tPn 1) by decide)]
    simp only [sm_wr]
    rw [if_neg (show ¬ nI 1 = 0 by decide), if_pos (show nI 1 = 1 from rfl), ke, ce, up_ne (show (1 : Nat) ≠ 19 by decide), h20, nI_pred, o 13 (by decide) (by decide), e13, o21]
  by_cases g : v < env.length
  · have hg : env[v]? = some env[v] := List.getElem?_eq_getElem g
    have ei : nI env.length - 1 - nI v = nI (env.length - 1 - v) := by
      have e1 : env.length = (env.length - 1 - v + v) + 1 := by omega
      have e2 : nI env.length - 1 = nI (env.length - 1 - v + v) := by
        conv => lhs; rw [e1]
        exact nI_pred _
      rw [e2]
      exact nI_sub _ _
    have hn : jR_typeNext [] M = some (1, [], zP M d 1 (M 23 (env.length - 1 - v))) := by
      rw [st, if_pos (nI_lt g (by omega))]
      unfold jR_typeNext_342
      rw [if_neg (by decide), ke, ce, o 13 (by decide) (by decide), e13, o21, ei, ck_nI (by omega) (by decide), nI_clamp (by omega), o 23 (by decide) (by decide)]
      simp only [jR_typeNext_372, sm_wr]
      exact bo_1
    refine Or.inl ⟨env[v], [], zP M d 1 (M 23 (env.length - 1 - v)), hg, z_loop h0 hn, by rw [List.append_nil]; exact zP_X hX, ?_, zP_F, Nat.zero_le _⟩
    rw [zP_22, List.append_nil]
    exact h23 v _ hg
  · have hn : jR_typeNext [] M = some (0, [], zP M d 1 0) := by
      rw [st, if_neg (nI_nlt (by omega) (by omega))]
      unfold jR_typeNext_342
      rw [if_pos rfl]
      simp only [jR_typeNext_372, sm_wr]
      exact bo_0
    refine Or.inr ⟨fun t q => g (List.getElem?_eq_some_iff.mp q).1, [], zP M d 1 0, z_loop h0 hn, by rw [List.append_nil]; exact (zP_X hX).1, (zP_F (m := 0)).1, Nat.zero_le _⟩
