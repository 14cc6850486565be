/-! the reference's typing: reckonings and choices -/
abbrev zT (M0 : sm_M) (L : List Ty) : Nat → List Ty → Nat → Ty → Prop := pT (M0 12) (M0 13) (M0 14) (M0 15) (M0 16) L
section
variable {M0 M : sm_M} {L LM LM' env : List Ty} {d e h k n nE : Nat}
theorem z_ph1 (hd : d < 60) (hX : zX M0 LM LM' env (d + 1) M) (h18 : M 18 d = nI e) (he : e < 40) (h19 : M 19 d = nI 1) (hk : M0 12 e = nI k) (k2 : 2 ≤ k) (k5 : k ≤ 5) : jR_typeNext [] M = if M 1 22 = 0 then jR_typeNext_112 (nI d) (nI e) (nI 1) (nI k) (nI (tPn k)) [] (sm_up M 19 d (nI 2)) else some (0, [], sm_up M 19 d (nI 2)) := by
  have h20 := hX.2.2.2.1
  have e12 : M 12 e = nI k := by rw [hX.2.2.2.2.2.2 12 (by decide) (by decide)]; exact hk
  have n2 : ¬ nI k < (2 : Int32) := nI_nlt (b := 2) k2 (by omega)
  have n5 : ¬ (5 : Int32) < nI k := nI_nlt (a := 5) k5 (by decide)
  have n8 : ¬ (8 : Int32) < nI k := nI_nlt (a := 8) (by omega) (by decide)
  have n7 : ¬ nI k = (7 : Int32) := fun q => by
    have := nI_inj (by omega) (by decide) (show nI k = nI 7 from q)
    omega
  rw [z_next (by omega) h20 h18 he h19 e12 (by omega), if_pos (show nI 1 = 1 from rfl), if_neg n2, if_neg n5, show (1 : Nat) + 1 = 2 from rfl]
  unfold jR_typeNext_70 jR_typeNext_90 jR_typeNext_110
  rw [if_neg n7, if_neg n8, bo_0]
theorem z_xN {f : Nat → Int32} (h : zE M0 e k (f e)) (he : e < 40) : ∃ g, xN f e < e ∧ f e = nI (xN f e) ∧ M0 17 (xN f e) = nI g ∧ g < k := by
  obtain ⟨e', g, h1, h2, h3, h4⟩ := h
  have hx : xN f e = e' := by unfold xN; rw [h2]; exact nI_clamp (by omega)
  exact ⟨g, by omega, by rw [hx]; exact h2, by rw [hx]; exact h3, h4⟩
theorem z_1st (hE : nE ≤ 40) (hi : zI M0 L LM nE n) (hs : ∀ u ∈ env, tyS L u) (hd : d + (n + 1) ≤ 60) (hX : zX M0 LM LM' env (d + 1) M) (h18 : M 18 d = nI e) (he : e < nE) (h19 : M 19 d = nI 0) (hk : M0 12 e = nI k) (k10 : k ≤ 10) (hp : 0 < tPn k) (k6 : k ≠ 6) (px : zE M0 e h (M0 14 e)) (hh : h ≤ n + 1) (hl16 : env.length + 2 * n ≤ 16) (hl : LM'.length + pw n < 3000) :
    (∃ (t : Ty) (K' : List Ty) (M1 : sm_M), zT M0 L n env (xN (M0 14) e) t ∧ zS M0 LM (LM' ++ K') env env d e 1 (M 20 d) (M 21 d) t M1 M ∧ K'.length ≤ pw n) ∨ ((∀ t, ¬ zT M0 L n env (xN (M0 14) e) t) ∧ zW LM' (pw n) M) := by
  obtain ⟨g, g1, g2, g3, g4⟩ := z_xN px (by omega)
  have hn := z_ph0 (by omega) hX h18 (by omega) h19 hk k10 hp k6
  rw [g2] at hn
  have := z_part (env := env) (e := e) (ph := 1) hE hi hs (u19_X (d := d) (v := nI 1) hX) u19_F (Nat.le_refl _) (by rw [hX.2.2.2.1]; exact nI_lt (a := 0) (by omega) (by omega)) hn (by rw [up_ne (by decide)]; exact h18) up_at (by omega) g3 (by omega) (by omega) hl16 hl
  rw [up_ne (show (20 : Nat) ≠ 19 by decide), up_ne (show (21 : Nat) ≠ 19 by decide)] at this
  exact this
theorem z_2nd (hE : nE ≤ 40) (hi : zI M0 L LM nE n) (hs : ∀ u ∈ env, tyS L u) (hd : d + (n + 1) ≤ 60) (hX : zX M0 LM LM' env (d + 1) M) (h18 : M 18 d = nI e) (he : e < nE) (hn : jR_typeNext [] M = some (1, [], bgF (zN1 M d) (d + 1) (M0 15 e))) (py : zE M0 e h (M0 15 e)) (hh : h ≤ n + 1) (hl16 : env.length + 2 * n ≤ 16) (hl : LM'.length + pw n < 3000) :
    (∃ (t : Ty) (K' : List Ty) (M1 : sm_M), zT M0 L n env (xN (M0 15) e) t ∧ zS M0 LM (LM' ++ K') env env d e 2 (M 1 22) (M 21 d) t M1 M ∧ K'.length ≤ pw n) ∨ ((∀ t, ¬ zT M0 L n env (xN (M0 15) e) t) ∧ zW LM' (pw n) M) := by
  obtain ⟨g, g1, g2, g3, g4⟩ := z_xN py (by omega)
  rw [g2] at hn
  have := z_part (env := env) (e := e) (ph := 2) hE hi hs (zN1_X (d := d) hX) zN1_F (Nat.le_refl _) (by rw [hX.2.2.2.1]; exact nI_lt (a := 0) (by omega) (by omega)) hn (by rw [zN1_o (by decide) (by decide)]; exact h18) zN1_19 (by omega) g3 (by omega) (by omega) hl16 hl
  rw [zN1_20, zN1_o (show (21 : Nat) ≠ 19 by decide) (by decide)] at this
  exact this
theorem z_3rd (hE : nE ≤ 40) (hi : zI M0 L LM nE n) (hs : ∀ u ∈ env, tyS L u) (hd : d + (n + 1) ≤ 60) (hX : zX M0 LM LM' env (d + 1) M) (h18 : M 18 d = nI e) (he : e < nE) (hn : jR_typeNext [] M = some (1, [], bgF (zN2 M d) (d + 1) (M0 16 e))) (pz : zE M0 e h (M0 16 e)) (hh : h ≤ n + 1) (hl16 : env.length + 2 * n ≤ 16) (hl : LM'.length + pw n < 3000) :
    (∃ (t : Ty) (K' : List Ty) (M1 : sm_M), zT M0 L n env (xN (M0 16) e) t ∧ zS M0 LM (LM' ++ K') env env d e 3 (M 20 d) (M 1 22) t M1 M ∧ K'.length ≤ pw n) ∨ ((∀ t, ¬ zT M0 L n env (xN (M0 16) e) t) ∧ zW LM' (pw n) M) := by
  obtain ⟨g, g1, g2, g3, g4⟩ := z_xN pz (by omega)
  rw [g2] at hn
  have := z_part (env := env) (e := e) (ph := 3) hE hi hs (zN2_X (d := d) hX) zN2_F (Nat.le_refl _) (by rw [hX.2.2.2.1]; exact nI_lt (a := 0) (by omega) (by omega)) hn (by rw [zN2_o (by decide) (by decide)]; exact h18) zN2_19 (by omega) g3 (by omega) (by omega) hl16 hl
  rw [zN2_21, zN2_20] at this
  exact this
/-- a frame is left, its answer as it was -/
theorem z_lv1 {N M' : sm_M} (hX : zX M0 LM LM' env (d + 1) N) (hM : M' = sm_up N 1 20 (nI d)) : zX M0 LM LM' env d M' ∧ zF d env.length M' N ∧ M' 1 22 = N 1 22 := by
  subst hM
  obtain ⟨h1, h2, h3, h4, h5, h6, h7⟩ := hX
  obtain ⟨a, b⟩ := z_lv (M := N) (M' := sm_up N 1 20 (nI d)) (m := env.length) (tabM_o (fun q a b => up_ne (by omega)) (up_as (by decide)) h1) h2 h3 up_at (by rw [up_as (by decide)]; exact h5) h6 h7 (fun q a b c e => up_ne (by omega)) (fun j hj => ⟨by rw [up_ne (by decide)], by rw [up_ne (by decide)], by rw [up_ne (by decide)]⟩) (fun j a b c e => up_as b)
  exact ⟨a, b, up_as (by decide)⟩
/-- a frame is left with the answer x -/
theorem z_lv2 {N M' : sm_M} {x : Int32} (hX : zX M0 LM LM' env (d + 1) N) (hM : M' = sm_up (sm_up N 1 20 (nI d)) 1 22 x) : zX M0 LM LM' env d M' ∧ zF d env.length M' N ∧ M' 1 22 = x := by
  subst hM
  obtain ⟨h1, h2, h3, h4, h5, h6, h7⟩ := hX
  have o : ∀ q, q ≠ 1 → sm_up (sm_up N 1 20 (nI d)) 1 22 x q = N q := fun q a => by rw [up_ne a, up_ne a]
  have oj : ∀ j, j ≠ 20 → j ≠ 22 → sm_up (sm_up N 1 20 (nI d)) 1 22 x 1 j = N 1 j := fun j a b => by rw [up_as b, up_as a]
  obtain ⟨a, b⟩ := z_lv (M := N) (M' := sm_up (sm_up N 1 20 (nI d)) 1 22 x) (m := env.length) (tabM_o (fun q a b => o q (by omega)) (oj 1 (by decide) (by decide)) h1) h2 h3 (by rw [up_as (by decide), up_at]) (by rw [oj 21 (by decide) (by decide)]; exact h5) h6 h7 (fun q a b c e => o q (by omega)) (fun j hj => ⟨by rw [o 19 (by decide)], by rw [o 20 (by decide)], by rw [o 21 (by decide)]⟩) (fun j a b c e => oj j b e)
  exact ⟨a, b, up_at⟩
theorem zQ.fail {P : Ty → Prop} {b : Nat} (hP : ∀ t, ¬ P t) (h : zW LM' b M) : zQ M0 LM P b LM' env d M := Or.inr ⟨hP, h⟩
theorem z_reck (hE : nE ≤ 40) (hi : zI M0 L LM nE n) (hs : ∀ u ∈ env, tyS L u) (hd : d + (n + 1) ≤ 60) (hX : zX M0 LM LM' env (d + 1) M) (h18 : M 18 d = nI e) (he : e < nE) (h19 : M 19 d = nI 0) (hk : M0 12 e = nI k) (k3 : k = 2 ∨ k = 3 ∨ k = 4) (px : zE M0 e h (M0 14 e)) (py : zE M0 e h (M0 15 e)) (hh : h ≤ n + 1) (hl16 : env.length + 2 * n ≤ 16) (hl : LM'.length + 3 * pw n < 3000) : zQ M0 LM (fun t => t = tyN ∧ zT M0 L n env (xN (M0 14) e) tyN ∧ zT M0 L n env (xN (M0 15) e) tyN) (3 * pw n) LM' env d M := by
  have hp : tPn k = 2 := by rcases k3 with rfl | rfl | rfl <;> rfl
  rcases z_1st hE hi hs hd hX h18 he h19 hk (by omega) (by omega) (by omega) px hh hl16 (by omega) with ⟨t1, K1, M1, hT1, hS1, hK1⟩ | ⟨hno, hW⟩
  · have hX1 := hS1.2.1
    have hn1 := z_ph1 (by omega) hX1 hS1.2.2.2.1 (by omega) hS1.2.2.2.2.1 hk (by omega) (by omega)
    by_cases g1 : t1 = tyN
    · subst g1
      rw [if_pos ((hX1.is0 hS1.2.2.1).mpr rfl), z_112a (by omega) hX1 (by omega) (by omega) (by omega) (by omega)] at hn1
      have hlen := List.length_append (as := LM') (bs := K1)
      rcases z_2nd hE hi hs hd hX1 hS1.2.2.2.1 he hn1 py hh hl16 (by omega) with ⟨t2, K2, M2, hT2, hS2, hK2⟩ | ⟨hno, hW⟩
      · have hS := hS1.then hS2
        have hX2 := hS.2.1
        have hn2 := z_ph2 (by omega) hX2 hS.2.2.2.1 (by omega) hS.2.2.2.2.1 hk (by omega)
        have hXN := zN2_X (d := d) hX2
        obtain ⟨a1, a2, a3⟩ := z_lv1 hXN rfl
        have n22 : zN2 M2 d 1 22 = M2 1 22 := by rw [zN2_o (by decide) (by decide)]
        have e22 : sm_up (zN2 M2 d) 1 20 (nI d) 1 22 = M2 1 22 := by rw [up_as (by decide), n22]
        have hn3 : jR_typeNext [] M2 = if M2 1 22 = 0 then some (1, [], sm_up (zN2 M2 d) 1 20 (nI d)) else some (0, [], sm_up (zN2 M2 d) 1 20 (nI d)) := by
          rw [hn2]
          unfold jR_typeNext_142 jR_typeNext_378 jR_typeNext_390 jR_typeNext_574
          simp only [sm_wr]
          rw [hp, if_neg (show ¬ nI 2 < nI 2 by decide), hXN.2.2.2.1, nI_pred, e22, bo_0]
          rcases k3 with rfl | rfl | rfl
          · rw [if_neg (show ¬ nI 2 = 0 by decide), if_neg (show ¬ nI 2 = 1 by decide), if_pos (show nI 2 = 2 from rfl), bo_1]
          · rw [if_neg (show ¬ nI 3 = 0 by decide), if_neg (show ¬ nI 3 = 1 by decide), if_neg (show ¬ nI 3 = 2 by decide), if_pos (show nI 3 = 3 from rfl), bo_1]
          · rw [if_neg (show ¬ nI 4 = 0 by decide), if_neg (show ¬ nI 4 = 1 by decide), if_neg (show ¬ nI 4 = 2 by decide), if_neg (show ¬ nI 4 = 3 by decide), if_pos (show nI 4 = 4 from rfl), bo_1]
        rw [List.append_assoc] at hS hX2 a1
        by_cases g2 : t2 = tyN
        · subst g2
          have z0 := (hX2.is0 hS.2.2.1).mpr rfl
          rw [if_pos z0] at hn3
          refine hS.done (K := []) (by omega) (by rw [List.append_nil, List.length_append]; omega) hn3 ⟨rfl, hT1, hT2⟩ ?_ (a2.trans zN2_F) ?_
          · rw [List.append_nil]; exact a1
          · rw [List.append_nil, e22]; exact hS.2.2.1
        · rw [if_neg (fun q => g2 ((hX2.is0 hS.2.2.1).mp q))] at hn3
          exact zQ.fail (fun t q => g2 (pT_fn _ _ _ _ _ hT2 q.2.2)) (hS.fail (by omega) (by rw [List.length_append]; omega) hn3 a1.1 (a2.1.trans (zN2_F (m := 0)).1))
      · exact zQ.fail (fun t q => hno _ q.2.2) (hS1.thenW hW (by omega))
    · rw [if_neg (fun q => g1 ((hX1.is0 hS1.2.2.1).mp q))] at hn1
      exact zQ.fail (fun t q => g1 (pT_fn _ _ _ _ _ hT1 q.2.1)) (hS1.fail (by omega) (by omega) hn1 (u19_X (d := d) hX1).1 (u19_F (m := 0)).1)
  · exact zQ.fail (fun t q => hno _ q.2.1) (hW.mono (by omega))
end
