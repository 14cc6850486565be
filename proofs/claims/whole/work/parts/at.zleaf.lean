/-! the reference's typing: constants -/
section
variable {M0 M : sm_M} {LM LM' env : List Ty} {d e : Nat}
/-- the frame at d is left with the answer x -/
def zP (M : sm_M) (d ph : Nat) (x : Int32) : sm_M := sm_up (sm_up (sm_up M 19 d (nI ph)) 1 20 (nI d)) 1 22 x
theorem zP_X {ph : Nat} {x : Int32} (h : zX M0 LM LM' env (d + 1) M) : zX M0 LM LM' env d (zP M d ph x) := by
  obtain ⟨h1, h2, h3, h4, h5, h6, h7⟩ := h
  have o : ∀ q, q ≠ 1 → q ≠ 19 → zP M d ph x q = M q := fun q a b => by unfold zP; rw [up_ne a, up_ne a, up_ne b]
  refine ⟨tabM_o (fun q a b => o q (by omega) (by omega)) ?_ h1, h2, h3, ?_, ?_, fun j t hj => by rw [o 23 (by decide) (by decide)]; exact h6 j t hj, fun q a b => by rw [o q (by omega) (by omega)]; exact h7 q a b⟩
  · unfold zP; rw [up_as (by decide), up_as (by decide), up_ne (by decide)]
  · unfold zP; rw [up_as (by decide), up_at]
  · unfold zP; rw [up_as (by decide), up_as (by decide), up_ne (by decide)]; exact h5
theorem zP_F {ph : Nat} {x : Int32} {m : Nat} : zF d m (zP M d ph x) M := by
  have o : ∀ q, q ≠ 1 → q ≠ 19 → zP M d ph x q = M q := fun q a b => by unfold zP; rw [up_ne a, up_ne a, up_ne b]
  refine ⟨⟨fun q a b => o q (by omega) (by omega), fun q a => o q (by omega) (by omega), fun j a b c f => ?_⟩, fun j hj => ⟨by rw [o 18 (by decide) (by decide)], ?_, by rw [o 20 (by decide) (by decide)], by rw [o 21 (by decide) (by decide)]⟩, fun j _ => by rw [o 23 (by decide) (by decide)]⟩
  · unfold zP; rw [up_as f, up_as b, up_ne (by decide)]
  · unfold zP; rw [up_ne (by decide), up_ne (by decide), up_as (by omega)]
theorem zP_22 {ph : Nat} {x : Int32} : zP M d ph x 1 22 = x := up_at
theorem zX.tn {n : Nat} (h : zX M0 LM LM' env n M) : LM'[0]? = some tyN := by
  obtain ⟨-, ⟨K, rfl⟩, h0, -⟩ := h
  rw [List.getElem?_append_left (List.getElem?_eq_some_iff.mp h0).1]
  exact h0
theorem z_const (hd : d < 60) (hX : zX M0 LM LM' env (d + 1) M) (h18 : M 18 d = nI e) (he : e < 40) (h19 : M 19 d = nI 0) (hk : M0 12 e = nI 0) {b : Nat} : zQ M0 LM (fun t => t = tyN) b LM' env d M := by
  have h20 := hX.2.2.2.1
  have e12 : M 12 e = nI 0 := by rw [hX.2.2.2.2.2.2 12 (by decide) (by decide)]; exact hk
  have hn : jR_typeNext [] M = some (1, [], zP M d 1 0) := by
    rw [z_next (by omega) h20 h18 he h19 e12 (by decide), if_neg (show ¬ nI 0 = 1 by decide)]
    unfold jR_typeNext_112 jR_typeNext_127 jR_typeNext_142
    rw [if_neg (show ¬ nI 0 = 1 by decide), if_neg (show ¬ nI 0 = 2 by decide), if_neg (show ¬ nI 0 < nI (tPn 0) by decide)]
    simp only [sm_wr]
    rw [if_pos (show nI 0 = 0 from nI_0), up_ne (show (1 : Nat) ≠ 19 by decide), h20, nI_pred]
    exact bo_1
  refine Or.inl ⟨tyN, [], zP M d 1 0, rfl, z_loop (by rw [h20]; exact nI_lt (a := 0) (by omega) (by omega)) hn, by rw [List.append_nil]; exact zP_X hX, ?_, zP_F, Nat.zero_le _⟩
  rw [zP_22, List.append_nil]
  exact Or.inr ⟨0, tyN, rfl, hX.tn, nI_0.symm⟩
end
