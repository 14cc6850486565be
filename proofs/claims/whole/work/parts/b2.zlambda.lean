/-! the reference's typing: functions -/
section
variable {M0 M : sm_M} {L LM LM' env : List Ty} {d e h k n nE tt r : Nat} {x : Int32} {ta tb : Ty}
/-- two are bound -/
def zB (M : sm_M) (d m r : Nat) : sm_M := sm_up (sm_up (sm_up (sm_up M 19 d (nI 1)) 23 m (nI r)) 23 (m + 1) (M 3 r)) 1 21 (nI (m + 2))
theorem zB_o {q m : Nat} (a : q ≠ 1) (b : q ≠ 19) (c : q ≠ 23) : zB M d m r q = M q := by unfold zB; rw [up_ne a, up_ne c, up_ne c, up_ne b]
theorem zB_1 {j m : Nat} (a : j ≠ 21) : zB M d m r 1 j = M 1 j := by unfold zB; rw [up_as a, up_ne (by decide), up_ne (by decide), up_ne (by decide)]
theorem zB_23 {j m : Nat} (a : j < m) : zB M d m r 23 j = M 23 j := by unfold zB; rw [up_ne (by decide), up_as (by omega), up_as (by omega), up_ne (by decide)]
theorem z_lam0 (hd : d < 60) (hX : zX M0 LM LM' env (d + 1) M) (h18 : M 18 d = nI e) (he : e < 40) (h19 : M 19 d = nI 0) (hk : M0 12 e = nI 6) (h13 : M0 13 e = nI tt) (ht : tt < 30) (h7 : M0 7 tt = nI r) (hr : r < 3000) (hl : env.length ≤ 14) : jR_typeNext [] M = some (1, [], bgF (zB M d env.length r) (d + 1) (M0 14 e)) := by
  obtain ⟨h1, h2, h3, h20, h21, h23, hq⟩ := id hX
  have e12 : M 12 e = nI 6 := by rw [hq 12 (by decide) (by decide)]; exact hk
  have e13 : M 13 e = nI tt := by rw [hq 13 (by decide) (by decide)]; exact h13
  have e7 : M 7 tt = nI r := by rw [hq 7 (by decide) (by decide)]; exact h7
  have ke : ∀ {ρ : Type} {q : Option ρ}, sm_ck (nI e) 40 q = q := ck_nI he (by decide)
  have ce : (nI e).toNatClampNeg = e := nI_clamp (by omega)
  have kt : ∀ {ρ : Type} {q : Option ρ}, sm_ck (nI tt) 30 q = q := ck_nI ht (by decide)
  have ct : (nI tt).toNatClampNeg = tt := nI_clamp (by omega)
  have kr : ∀ {ρ : Type} {q : Option ρ}, sm_ck (nI r) 3000 q = q := ck_nI hr (by decide)
  have cr : (nI r).toNatClampNeg = r := nI_clamp (by omega)
  have km : ∀ {ρ : Type} {q : Option ρ}, sm_ck (nI env.length) 32 q = q := ck_nI (by omega) (by decide)
  have cm : (nI env.length).toNatClampNeg = env.length := nI_clamp (by omega)
  have km1 : ∀ {ρ : Type} {q : Option ρ}, sm_ck (nI (env.length + 1)) 32 q = q := ck_nI (by omega) (by decide)
  have cm1 : (nI (env.length + 1)).toNatClampNeg = env.length + 1 := nI_clamp (by omega)
  have u1 : ∀ {N : sm_M} {q j : Nat} {y : Int32}, 1 ≠ q → sm_up N q j y 1 = N 1 := fun h => up_ne h
  have u13 : ∀ {N : sm_M} {q j : Nat} {y : Int32}, 13 ≠ q → sm_up N q j y 13 = N 13 := fun h => up_ne h
  have u7 : ∀ {N : sm_M} {q j : Nat} {y : Int32}, 7 ≠ q → sm_up N q j y 7 = N 7 := fun h => up_ne h
  have u3 : ∀ {N : sm_M} {q j : Nat} {y : Int32}, 3 ≠ q → sm_up N q j y 3 = N 3 := fun h => up_ne h
  have n2 : nI env.length + 2 = nI (env.length + 2) := nI_add env.length 2
  rw [z_next (by omega) h20 h18 he h19 e12 (by decide), if_neg (show ¬ nI 0 = 1 by decide)]
  unfold jR_typeNext_112 jR_typeNext_127 jR_typeNext_142
  rw [if_neg (show ¬ nI 0 = 1 by decide), if_neg (show ¬ nI 0 = 2 by decide), if_pos (show nI 0 < nI (tPn 6) by decide), if_pos (show nI 6 = 6 from rfl)]
  simp only [sm_wr, ke, ce, u1 (show (1 : Nat) ≠ 19 by decide), u1 (show (1 : Nat) ≠ 23 by decide), u13 (show (13 : Nat) ≠ 19 by decide), u13 (show (13 : Nat) ≠ 23 by decide), u7 (show (7 : Nat) ≠ 19 by decide), u7 (show (7 : Nat) ≠ 23 by decide), u3 (show (3 : Nat) ≠ 19 by decide), u3 (show (3 : Nat) ≠ 23 by decide), e13, kt, ct, h21, km, cm, e7, kr, cr, nI_1, km1, cm1, n2]
  unfold jR_typeNext_212 jR_typeNext_246
  rw [if_pos (show nI 0 = 0 from nI_0), ke, ce]
  show sm_bi (jR_begin (zB M d env.length r 14 e) [] (zB M d env.length r)) _ = _
  rw [zB_o (by decide) (by decide) (by decide), hq 14 (by decide) (by decide), z_begin (d := d + 1) (by omega) (by rw [zB_1 (by decide)]; exact h20), bi_some, dq_self, bo_1]
theorem z_lambda (hE : nE ≤ 40) (hi : zI M0 L LM nE n) (hL : tyC L) (hs : ∀ u ∈ env, tyS L u) (hd : d + (n + 1) ≤ 60) (hX : zX M0 LM LM' env (d + 1) M) (h18 : M 18 d = nI e) (he : e < nE) (h19 : M 19 d = nI 0) (hk : M0 12 e = nI 6) (px : zE M0 e h (M0 14 e)) (h13 : M0 13 e = nI tt) (ht : L[tt]? = some (tyF ta tb)) (ht30 : tt < 30) (h7 : M0 7 tt = nI r) (hr : LM[r]? = some (tyF ta tb)) (hh : h ≤ n + 1) (hl16 : env.length + 2 * (n + 1) ≤ 16) (hl : LM'.length + 3 * pw n < 3000) : zQ M0 LM (fun t => L[xN (M0 13) e]? = some t ∧ ∃ a b, t = tyF a b ∧ zT M0 L n (a :: t :: env) (xN (M0 14) e) b) (3 * pw n) LM' env d M := by
  obtain ⟨b1, ⟨K0, hK0⟩, b3, b20, b21, b23, bq⟩ := id hX
  have hr' : LM'[r]? = some (tyF ta tb) := by rw [hK0, List.getElem?_append_left (List.getElem?_eq_some_iff.mp hr).1]; exact hr
  have hr3 : r < 3000 := by
    have := (List.getElem?_eq_some_iff.mp hr').1
    have := b1.1
    omega
  obtain ⟨-, r2, r3, r4, -⟩ := b1.row hr'
  have hx13 : xN (M0 13) e = tt := by unfold xN; rw [h13]; exact nI_clamp (by omega)
  obtain ⟨g, g1, g2, g3, g4⟩ := z_xN px (by omega)
  have hmem : tyF ta tb ∈ L := List.mem_of_getElem? ht
  have hs' : ∀ u ∈ ta :: tyF ta tb :: env, tyS L u := by
    intro u hu
    rcases List.mem_cons.mp hu with rfl | hu
    · exact tyS.mem (hL.2.2 _ _ hmem).1
    · rcases List.mem_cons.mp hu with rfl | hu
      · exact tyS.mem hmem
      · exact hs u hu
  have hn0 := z_lam0 (by omega) hX h18 (by omega) h19 hk h13 ht30 h7 hr3 (by omega)
  rw [g2] at hn0
  have hXB : zX M0 LM LM' (ta :: tyF ta tb :: env) (d + 1) (zB M d env.length r) := by
    refine ⟨tabM_o (fun q a b => zB_o (by omega) (by omega) (by omega)) (zB_1 (by decide)) b1, ⟨K0, hK0⟩, b3, by rw [zB_1 (by decide)]; exact b20, up_at, fun j t hj => ?_, fun q a b => by rw [zB_o (by omega) (by omega) (by omega)]; exact bq q a b⟩
    match j, hj with
    | 0, hj =>
      have : t = ta := (Option.some.inj hj).symm
      subst this
      show ty_pr LM' (zB M d env.length r 23 (env.length + 1)) _
      unfold zB
      rw [up_ne (by decide), up_at]
      exact r3
    | 1, hj =>
      have : t = tyF ta tb := (Option.some.inj hj).symm
      subst this
      show ty_pr LM' (zB M d env.length r 23 (env.length)) _
      unfold zB
      rw [up_ne (by decide), up_as (by omega), up_at]
      exact Or.inr ⟨r, _, rfl, hr', rfl⟩
    | j + 2, hj =>
      have hj' : env[j]? = some t := hj
      have hlt := (List.getElem?_eq_some_iff.mp hj').1
      have e1 : (ta :: tyF ta tb :: env).length - 1 - (j + 2) = env.length - 1 - j := by show env.length + 1 + 1 - 1 - (j + 2) = _; omega
      rw [e1, zB_23 (by omega)]
      exact b23 j t hj'
  have hFB : zF d env.length (zB M d env.length r) M := by
    refine ⟨⟨fun q a b => zB_o (by omega) (by omega) (by omega), fun q a => zB_o (by omega) (by omega) (by omega), fun j a b c f => zB_1 c⟩, fun j hj => ⟨by rw [zB_o (by decide) (by decide) (by decide)], ?_, by rw [zB_o (by decide) (by decide) (by decide)], by rw [zB_o (by decide) (by decide) (by decide)]⟩, fun j hj => zB_23 hj⟩
    unfold zB
    rw [up_ne (by decide), up_ne (by decide), up_ne (by decide), up_as (by omega)]
  have hlen2 : (ta :: tyF ta tb :: env).length = env.length + 2 := rfl
  rcases z_part (env := env) (e := e) (ph := 1) hE hi hs' hXB hFB (by omega) (by rw [b20]; exact nI_lt (a := 0) (by omega) (by omega)) hn0 (by rw [zB_o (by decide) (by decide) (by decide)]; exact h18) (by unfold zB; rw [up_ne (by decide), up_ne (by decide), up_ne (by decide), up_at]) (by omega) g3 (by omega) (by omega) (by omega) (by omega) with ⟨t1, K1, M1, hT1, hS1, hK1⟩ | ⟨hno, hW⟩
  · have hX1 := hS1.2.1
    have hr1 : (LM' ++ K1)[r]? = some (tyF ta tb) := by rw [List.getElem?_append_left (List.getElem?_eq_some_iff.mp hr').1]; exact hr'
    obtain ⟨-, s2, s3, s4, -⟩ := hX1.1.row hr1
    have hn1 := z_ph1c (by omega) hX1 hS1.2.2.2.1 (by omega) hS1.2.2.2.2.1 hk (by omega) (by omega) (by omega) (by omega)
    rw [z_112b (by omega) (by decide)] at hn1
    have hXN := zN1_X (d := d) hX1
    obtain ⟨c1, c2, c3, c20, c21, c23, cq⟩ := id hXN
    have ke : ∀ {ρ : Type} {q : Option ρ}, sm_ck (nI e) 40 q = q := ck_nI (by omega) (by decide)
    have ce : (nI e).toNatClampNeg = e := nI_clamp (by omega)
    have kt : ∀ {ρ : Type} {q : Option ρ}, sm_ck (nI tt) 30 q = q := ck_nI ht30 (by decide)
    have ct : (nI tt).toNatClampNeg = tt := nI_clamp (by omega)
    have kr : ∀ {ρ : Type} {q : Option ρ}, sm_ck (nI r) 3000 q = q := ck_nI hr3 (by decide)
    have cr : (nI r).toNatClampNeg = r := nI_clamp (by omega)
    have d13 : zN1 M1 d 13 e = nI tt := by rw [cq 13 (by decide) (by decide)]; exact h13
    have d7 : zN1 M1 d 7 tt = nI r := by rw [cq 7 (by decide) (by decide)]; exact h7
    have u1 : ∀ {N : sm_M} {q : Nat} {j : Nat} {y : Int32}, q ≠ 1 → sm_up N 1 j y q = N q := fun h => up_ne h
    have d21 : nI (env.length + 2) - 2 = nI env.length := nI_sub env.length 2
    have d4 : zN1 M1 d 4 = M1 4 := zN1_o (by decide) (by decide)
    have v21 : ∀ {y : Int32}, sm_up (zN1 M1 d) 1 20 y 1 21 = nI (env.length + 2) := fun {y} => by rw [up_as (by decide)]; exact c21
    have v22 : ∀ {y z : Int32}, sm_up (sm_up (zN1 M1 d) 1 20 y) 1 21 z 1 22 = M1 1 22 := fun {y z} => by rw [up_as (by decide), up_as (by decide), zN1_o (by decide) (by decide)]
    have hn2 : jR_typeNext [] M1 = if M1 1 22 = M1 4 r then some (1, [], sm_up (sm_up (sm_up (zN1 M1 d) 1 20 (nI d)) 1 21 (nI env.length)) 1 22 (nI r)) else some (0, [], sm_up (sm_up (sm_up (zN1 M1 d) 1 20 (nI d)) 1 21 (nI env.length)) 1 22 (nI r)) := by
      rw [hn1]
      unfold jR_typeNext_142 jR_typeNext_456 jR_typeNext_574
      simp only [sm_wr]
      rw [if_neg (show ¬ nI 1 < nI (tPn 6) by decide), c20, nI_pred, if_neg (show ¬ nI 6 = 0 by decide), if_neg (show ¬ nI 6 = 1 by decide), if_neg (show ¬ nI 6 = 2 by decide), if_neg (show ¬ nI 6 = 3 by decide), if_neg (show ¬ nI 6 = 4 by decide), if_neg (show ¬ nI 6 = 5 by decide), if_pos (show nI 6 = 6 from rfl)]
      simp only [ke, ce, u1 (show (13 : Nat) ≠ 1 by decide), u1 (show (7 : Nat) ≠ 1 by decide), u1 (show (4 : Nat) ≠ 1 by decide), d13, kt, ct, d7, kr, cr, d4, v21, d21, v22]
      rw [bo_1, bo_0]
    have o : ∀ q, q ≠ 1 → sm_up (sm_up (sm_up (zN1 M1 d) 1 20 (nI d)) 1 21 (nI env.length)) 1 22 (nI r) q = zN1 M1 d q := fun q a => by rw [up_ne a, up_ne a, up_ne a]
    have o1 : ∀ j, j ≠ 20 → j ≠ 21 → j ≠ 22 → sm_up (sm_up (sm_up (zN1 M1 d) 1 20 (nI d)) 1 21 (nI env.length)) 1 22 (nI r) 1 j = zN1 M1 d 1 j := fun j a b c => by rw [up_as c, up_as b, up_as a]
    obtain ⟨f1, f2⟩ := z_lv (M0 := M0) (LM := LM) (LM2 := LM' ++ K1) (env := env) (d := d) (m := env.length) (M := zN1 M1 d) (M' := sm_up (sm_up (sm_up (zN1 M1 d) 1 20 (nI d)) 1 21 (nI env.length)) 1 22 (nI r)) (tabM_o (fun q a b => o q (by omega)) (o1 1 (by decide) (by decide) (by decide)) c1) c2 c3 (by rw [up_as (by decide), up_as (by decide), up_at]) (by rw [up_as (by decide), up_at]) (fun j t hj => by
      have hlt := (List.getElem?_eq_some_iff.mp hj).1
      have q := c23 (j + 2) t hj
      have e1 : (ta :: tyF ta tb :: env).length - 1 - (j + 2) = env.length - 1 - j := by show env.length + 1 + 1 - 1 - (j + 2) = _; omega
      rw [e1] at q
      exact q) cq (fun q a _ _ _ => o q (by omega)) (fun j _ => ⟨by rw [o 19 (by decide)], by rw [o 20 (by decide)], by rw [o 21 (by decide)]⟩) (fun j _ a b c => o1 j a b c)
    have hp1 := hS1.2.2.1
    have hl1 := hX1.1.1
    by_cases gq : t1 = tb
    · subst gq
      rw [if_pos (ty_pr.inj hX1.1.2.2.1 hp1 s4)] at hn2
      refine hS1.done (K := []) (u := tyF ta t1) (by omega) (by rw [List.append_nil]; omega) hn2 ⟨by rw [hx13]; exact ht, ta, t1, rfl, hT1⟩ (by rw [List.append_nil]; exact f1) (f2.trans zN1_F) ?_
      rw [List.append_nil, up_at]
      exact Or.inr ⟨r, _, rfl, hr1, rfl⟩
    · rw [if_neg (fun q => gq (by rw [q] at hp1; exact Option.some.inj (ty_pr.fn (by omega) hp1 s4)))] at hn2
      refine zQ.fail (fun t q => gq ?_) (hS1.fail (by omega) (by omega) hn2 f1.1 (f2.1.trans (zN1_F (m := 0)).1))
      obtain ⟨q1, a, b, rfl, q2⟩ := q
      rw [hx13, ht] at q1
      obtain ⟨rfl, rfl⟩ := tyF_inj (Option.some.inj q1)
      exact pT_fn _ _ _ _ _ hT1 q2
  · refine zQ.fail (fun t q => ?_) (hW.mono (by omega))
    obtain ⟨q1, a, b, rfl, q2⟩ := q
    rw [hx13, ht] at q1
    obtain ⟨rfl, rfl⟩ := tyF_inj (Option.some.inj q1)
    exact hno _ q2
end
