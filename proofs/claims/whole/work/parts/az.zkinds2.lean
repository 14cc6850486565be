/-! the reference's typing: choices, calls, pairs, halves -/
section
variable {M0 M : sm_M} {L LM LM' env : List Ty} {d e h k n nE : Nat} {x : Int32}
theorem z_choice (hE : nE ≤ 40) (hi : zI M0 L LM nE n) (hs : ∀ u ∈ env, tyS L u) (hd : d + (n + 1) ≤ 60) (hX : zX M0 LM LM' env (d + 1) M) (h18 : M 18 d = nI e) (he : e < nE) (h19 : M 19 d = nI 0) (hk : M0 12 e = nI 5) (px : zE M0 e h (M0 14 e)) (py : zE M0 e h (M0 15 e)) (pz : zE M0 e h (M0 16 e)) (hh : h ≤ n + 1) (hl16 : env.length + 2 * n ≤ 16) (hl : LM'.length + 3 * pw n < 3000) : zQ M0 LM (fun t => zT M0 L n env (xN (M0 14) e) tyN ∧ zT M0 L n env (xN (M0 15) e) t ∧ zT M0 L n env (xN (M0 16) e) t) (3 * pw n) LM' env d M := by
  rcases z_1st hE hi hs hd hX h18 he h19 hk (by omega) (by decide) (by omega) px hh hl16 (by omega) with ⟨t1, K1, M1, hT1, hS1, hK1⟩ | ⟨hno, hW⟩
  · have hX1 := hS1.2.1
    have hn1 := z_ph1 (by omega) hX1 hS1.2.2.2.1 (by omega) hS1.2.2.2.2.1 hk (by omega) (by omega)
    by_cases g1 : t1 = tyN
    · subst g1
      rw [if_pos ((hX1.is0 hS1.2.2.1).mpr rfl), z_112a (by omega) hX1 (by omega) (by omega) (by decide) (by omega)] at hn1
      have hlen := List.length_append (as := LM') (bs := K1)
      rcases z_2nd hE hi hs hd hX1 hS1.2.2.2.1 he hn1 py hh hl16 (by omega) with ⟨t2, K2, M2, hT2, hS2, hK2⟩ | ⟨hno, hW⟩
      · have hS := hS1.then hS2
        have hX2 := hS.2.1
        have hn2 := z_ph2a (by omega) hX2 hS.2.2.2.1 (by omega) hS.2.2.2.2.1 hk
        have hlen2 := List.length_append (as := LM' ++ K1) (bs := K2)
        rcases z_3rd hE hi hs hd hX2 hS.2.2.2.1 he hn2 pz hh hl16 (by omega) with ⟨t3, K3, M3, hT3, hS3, hK3⟩ | ⟨hno, hW⟩
        · have hp2 := hS2.2.2.1
          replace hS := hS.then hS3
          have hX3 := hS.2.1
          have h20 := hX3.2.2.2.1
          have kd : ∀ {ρ : Type} {q : Option ρ}, sm_ck (nI d) 64 q = q := ck_nI (by omega) (by decide)
          have cd : (nI d).toNatClampNeg = d := nI_clamp (by omega)
          have e12 : M3 12 e = nI 5 := by rw [hX3.2.2.2.2.2.2 12 (by decide) (by decide)]; exact hk
          have hXN := u19_X (d := d) (v := nI 4) hX3
          obtain ⟨a1, a2, a3⟩ := z_lv1 hXN rfl
          have e22 : sm_up (sm_up M3 19 d (nI 4)) 1 20 (nI d) 1 22 = M3 1 22 := by rw [up_as (by decide), up_ne (by decide)]
          have e21 : sm_up (sm_up M3 19 d (nI 4)) 1 20 (nI d) 21 d = M2 1 22 := by rw [up_ne (by decide), up_ne (by decide)]; exact hS.2.2.2.2.2.2.1
          have hn3 : jR_typeNext [] M3 = if M3 1 22 = M2 1 22 then some (1, [], sm_up (sm_up M3 19 d (nI 4)) 1 20 (nI d)) else some (0, [], sm_up (sm_up M3 19 d (nI 4)) 1 20 (nI d)) := by
            rw [z_next (by omega) h20 hS.2.2.2.1 (by omega) hS.2.2.2.2.1 e12 (by omega), if_neg (show ¬ nI 3 = 1 by decide)]
            unfold jR_typeNext_112 jR_typeNext_127 jR_typeNext_142 jR_typeNext_413 jR_typeNext_574
            rw [if_neg (show ¬ nI 3 = 1 by decide), if_neg (show ¬ nI 3 = 2 by decide), if_neg (show ¬ nI 3 < nI (tPn 5) by decide)]
            simp only [sm_wr]
            rw [show (3 : Nat) + 1 = 4 from rfl, hXN.2.2.2.1, nI_pred, kd, cd, e22, e21, if_neg (show ¬ nI 5 = 0 by decide), if_neg (show ¬ nI 5 = 1 by decide), if_neg (show ¬ nI 5 = 2 by decide), if_neg (show ¬ nI 5 = 3 by decide), if_neg (show ¬ nI 5 = 4 by decide), if_pos (show nI 5 = 5 from rfl), bo_1, bo_0]
          have hp2' : ty_pr (LM' ++ K1 ++ K2 ++ K3) (M2 1 22) (some t2) := hp2.grow
          have hl3 := hX3.1.1
          have nd := hX3.1.2.2.1
          have hp3 := hS.2.2.1
          have hlen3 := List.length_append (as := LM' ++ K1 ++ K2) (bs := K3)
          have ap : LM' ++ K1 ++ K2 ++ K3 = LM' ++ (K1 ++ K2 ++ K3) := by simp only [List.append_assoc]
          have hlK : (K1 ++ K2 ++ K3).length ≤ 3 * pw n := by rw [List.length_append, List.length_append]; omega
          by_cases g2 : t3 = t2
          · subst g2
            rw [if_pos (ty_pr.inj nd hp3 hp2')] at hn3
            rw [ap] at hS a1
            refine hS.done (K := []) (by omega) (by rw [List.append_nil]; exact hlK) hn3 ⟨hT1, hT2, hT3⟩ ?_ (a2.trans u19_F) ?_
            · rw [List.append_nil]; exact a1
            · rw [List.append_nil, e22]; exact hS.2.2.1
          · rw [if_neg (fun q => g2 (by rw [q] at hp3; exact Option.some.inj (ty_pr.fn (by omega) hp3 hp2')))] at hn3
            rw [ap] at hS a1
            refine zQ.fail (fun t q => g2 ?_) (hS.fail (by omega) hlK hn3 a1.1 (a2.1.trans (u19_F (m := 0)).1))
            rw [pT_fn _ _ _ _ _ hT3 q.2.2, pT_fn _ _ _ _ _ hT2 q.2.1]
        · rw [List.append_assoc] at hS hW
          exact zQ.fail (fun t q => hno _ q.2.2) (hS.thenW hW (by rw [List.length_append]; omega))
      · exact zQ.fail (fun t q => hno _ q.2.1) (hS1.thenW hW (by omega))
    · rw [if_neg (fun q => g1 ((hX1.is0 hS1.2.2.1).mp q))] at hn1
      exact zQ.fail (fun t q => g1 (pT_fn _ _ _ _ _ hT1 q.1)) (hS1.fail (by omega) (by omega) hn1 (u19_X (d := d) hX1).1 (u19_F (m := 0)).1)
  · exact zQ.fail (fun t q => hno _ q.1) (hW.mono (by omega))
theorem z_ph1c (hd : d < 60) (hX : zX M0 LM LM' env (d + 1) M) (h18 : M 18 d = nI e) (he : e < 40) (h19 : M 19 d = nI 1) (hk : M0 12 e = nI k) (k6 : 6 ≤ k) (k10 : k ≤ 10) (k7 : k ≠ 7) (k8 : k ≤ 8) : jR_typeNext [] M = jR_typeNext_112 (nI d) (nI e) (nI 1) (nI k) (nI (tPn k)) [] (sm_up M 19 d (nI 2)) := by
  have h20 := hX.2.2.2.1
  have e12 : M 12 e = nI k := by rw [hX.2.2.2.2.2.2 12 (by decide) (by decide)]; exact hk
  have n2 : ¬ nI k < (2 : Int32) := nI_nlt (b := 2) (by omega) (by omega)
  have n5 : (5 : Int32) < nI k := nI_lt (a := 5) (by omega) (by omega)
  have n8 : ¬ (8 : Int32) < nI k := nI_nlt (a := 8) (by omega) (by decide)
  have n7 : ¬ nI k = (7 : Int32) := fun q => k7 (nI_inj (by omega) (by decide) (show nI k = nI 7 from q))
  rw [z_next (by omega) h20 h18 he h19 e12 (by omega), if_pos (show nI 1 = 1 from rfl), if_neg n2, if_pos n5, show (1 : Nat) + 1 = 2 from rfl]
  unfold jR_typeNext_70 jR_typeNext_90
  rw [if_neg n7, if_neg n8]
/-- kind 7 looks for a function, kinds 9 and 10 for a pair -/
theorem z_ph1d {i : Nat} (hd : d < 60) (hX : zX M0 LM LM' env (d + 1) M) (h18 : M 18 d = nI e) (he : e < 40) (h19 : M 19 d = nI 1) (hk : M0 12 e = nI k) (kk : k = 7 ∨ k = 9 ∨ k = 10) (h22 : M 1 22 = nI i) (hi : i < 3000) : jR_typeNext [] M = if M 2 i = (if k = 7 then 2 else 1) then jR_typeNext_112 (nI d) (nI e) (nI 1) (nI k) (nI (tPn k)) [] (sm_up M 19 d (nI 2)) else some (0, [], sm_up M 19 d (nI 2)) := by
  have h20 := hX.2.2.2.1
  have e12 : M 12 e = nI k := by rw [hX.2.2.2.2.2.2 12 (by decide) (by decide)]; exact hk
  have u22 : sm_up M 19 d (nI 2) 1 22 = nI i := by rw [up_ne (by decide)]; exact h22
  have u2 : sm_up M 19 d (nI 2) 2 = M 2 := up_ne (by decide)
  have ki : ∀ {ρ : Type} {q : Option ρ}, sm_ck (nI i) 3000 q = q := ck_nI hi (by decide)
  have ci : (nI i).toNatClampNeg = i := nI_clamp (by omega)
  rw [z_next (by omega) h20 h18 he h19 e12 (by omega), if_pos (show nI 1 = 1 from rfl), show (1 : Nat) + 1 = 2 from rfl]
  unfold jR_typeNext_70 jR_typeNext_90 jR_typeNext_110
  rw [u22, u2, ki, ki, ci, bo_0]
  rcases kk with rfl | rfl | rfl
  · rw [if_neg (show ¬ nI 7 < 2 by decide), if_pos (show (5 : Int32) < nI 7 by decide), if_pos (show nI 7 = 7 from rfl), if_neg (show ¬ (8 : Int32) < nI 7 by decide), if_pos (show (7 : Nat) = 7 from rfl)]
  · rw [if_neg (show ¬ nI 9 < 2 by decide), if_pos (show (5 : Int32) < nI 9 by decide), if_neg (show ¬ nI 9 = 7 by decide), if_pos (show (8 : Int32) < nI 9 by decide), if_neg (show ¬ (9 : Nat) = 7 by decide)]
  · rw [if_neg (show ¬ nI 10 < 2 by decide), if_pos (show (5 : Int32) < nI 10 by decide), if_neg (show ¬ nI 10 = 7 by decide), if_pos (show (8 : Int32) < nI 10 by decide), if_neg (show ¬ (10 : Nat) = 7 by decide)]
/-- the rows of a function or a pair that typing has met -/
theorem zX.kind2 {D i : Nat} {t : Ty} (hL : tyC L) (h : zX M0 LM LM' env D M) (hi : LM'[i]? = some t) (hs : tyS L t) (hok : ∀ u ∈ L, tyok u) : (M 2 i = 2 ↔ ∃ a b, t = tyF a b) ∧ (M 2 i = 1 ↔ ∃ a b, t = tyP a b) := by
  have r := fun {m : Nat} {o1 o2 o3 : Option Ty} (q : LM'[i]? = some (ty_mk m o1 o2 o3)) => (h.1.row q).2.1
  rcases hs.ok hok with rfl | ⟨a, b, rfl⟩ | ⟨a, b, rfl⟩ | ⟨a, rfl⟩ | ⟨o1, o2, o3, rfl⟩
  · rw [r hi]; exact ⟨⟨fun q => absurd q (by decide), fun ⟨_, _, q⟩ => absurd (ty_mk_inj q).1 (by decide)⟩, ⟨fun q => absurd q (by decide), fun ⟨_, _, q⟩ => absurd (ty_mk_inj q).1 (by decide)⟩⟩
  · rw [r hi]; exact ⟨⟨fun q => absurd q (by decide), fun ⟨_, _, q⟩ => absurd (ty_mk_inj q).1 (by decide)⟩, ⟨fun _ => ⟨a, b, rfl⟩, fun _ => rfl⟩⟩
  · rw [r hi]; exact ⟨⟨fun _ => ⟨a, b, rfl⟩, fun _ => rfl⟩, ⟨fun q => absurd q (by decide), fun ⟨_, _, q⟩ => absurd (ty_mk_inj q).1 (by decide)⟩⟩
  · rw [r hi]; exact ⟨⟨fun q => absurd q (by decide), fun ⟨_, _, q⟩ => absurd (ty_mk_inj q).1 (by decide)⟩, ⟨fun q => absurd q (by decide), fun ⟨_, _, q⟩ => absurd (ty_mk_inj q).1 (by decide)⟩⟩
  · rw [r hi]; exact ⟨⟨fun q => absurd q (by decide), fun ⟨_, _, q⟩ => absurd (ty_mk_inj q).1 (by decide)⟩, ⟨fun q => absurd q (by decide), fun ⟨_, _, q⟩ => absurd (ty_mk_inj q).1 (by decide)⟩⟩
end
