/-! compile: the reference finds its types anew -/
section
variable {L : List Ty} {Mc X Y Z M : sm_M} {x : Int32}
theorem r_num7 {i : Nat} {a : Int32} {o1 : Option Ty} (hi : i ≤ 30) (h7 : ∀ j, j < i → M 7 j = nI j) (ha : ty_pr (L.take i) a o1) : jR_numberOf a [] M = some (a, [], M) := by
  unfold jR_numberOf jR_numberOf_14
  rcases ha with ⟨-, rfl⟩ | ⟨j, u, -, hj, rfl⟩
  · rw [if_pos m1_lt]
  · have hl := (List.getElem?_eq_some_iff.mp hj).1
    rw [List.length_take] at hl
    have hji : j < i := by omega
    rw [if_neg (nI_pos (by omega)), ck_nI (by omega) (by decide), nI_clamp (by omega), h7 j hji]
theorem r_again (hT : tabC Mc L) (hL : L.length ≤ 30) (hok : ∀ t, t ∈ L → tyok t) (hX : ∀ i, i < L.length → X 8 i = Mc 2 i ∧ X 9 i = Mc 3 i ∧ X 10 i = Mc 4 i ∧ X 11 i = Mc 5 i) (h7 : X 1 7 = nI L.length) : ∀ (d i : Nat) (M : sm_M), i + d = L.length → tabM M (L.take i) → (∀ j, j < i → M 7 j = nI j) → (∀ q, 7 < q → M q = X q) → (∀ j, j ≠ 1 → M 1 j = X 1 j) → ∃ M', jR_compile_85 x (nI i) [] M = jR_compile_85 x (nI L.length) [] M' ∧ tabM M' L ∧ (∀ j, j < L.length → M' 7 j = nI j) ∧ (∀ q, 7 < q → M' q = X q) ∧ ∀ j, j ≠ 1 → M' 1 j = X 1 j := by
  intro d
  induction d with
  | zero =>
    intro i M hi h1 h2 h3 h4
    have e : i = L.length := by omega
    subst e
    rw [List.take_length] at h1
    exact ⟨M, rfl, h1, h2, h3, h4⟩
  | succ d ih =>
    intro i M hi h1 h2 h3 h4
    have hil : i < L.length := by omega
    have hg : L[i]? = some L[i] := List.getElem?_eq_getElem hil
    obtain ⟨e8, e9, e10, e11⟩ := hX i hil
    obtain ⟨hs, -⟩ := hT.2.2.2.1 i _ hg
    have len : (L.take i).length = i := by rw [List.length_take]; omega
    rcases hs with ⟨n, o1, o2, o3, hn, et, ek, p1, p2, p3⟩ | ⟨n, et, -⟩
    · have tk : L.take (i + 1) = L.take i ++ [ty_mk n o1 o2 o3] := by rw [← et]; exact List.take_succ_eq_append_getElem hil
      have m8 : M 8 i = nI n := by rw [h3 8 (by decide), e8, ek]
      have m9 : M 9 i = Mc 3 i := by rw [h3 9 (by decide), e9]
      have m10 : M 10 i = Mc 4 i := by rw [h3 10 (by decide), e10]
      have m11 : M 11 i = Mc 5 i := by rw [h3 11 (by decide), e11]
      have kk : ∀ {ρ : Type} {q : Option ρ}, sm_ck (nI i) 30 q = q := ck_nI (by omega) (by decide)
      rcases r_find (D := []) h1 hn p1 p2 p3 (by omega) with ⟨r, hr, hj⟩ | ⟨hno, M', hj, hT', ho1, ho⟩
      · exfalso
        have hr1 := (List.getElem?_eq_some_iff.mp hr).1
        rw [len] at hr1
        rw [List.getElem?_take_of_lt hr1] at hr
        rw [et] at hg
        have := ty_nodup_at hT.2.2.1 hr hg
        omega
      · rw [len] at hj
        have hstep : jR_compile_85 x (nI i) [] M = jR_compile_85 x (nI (i + 1)) [] (sm_up M' 7 i (nI i)) := by
          unfold jR_compile_85
          refine sm_lp_eq ?_
          show jR_compile_85_c x (nI i) [] M = _
          unfold jR_compile_85_c
          simp only [sm_wr]
          rw [h4 7 (by decide), h7, if_pos (nI_lt hil (by omega)), kk, kk, nI_clamp (by omega), m9, r_num7 (by omega) h2 p1, bi_some, dq_self, kk, m10, r_num7 (by omega) h2 p2, bi_some, dq_self, kk, m11, r_num7 (by omega) h2 p3, bi_some, dq_self, m8, hj, bi_some, dq_self, kk, dq_self, nI_1]
        rw [hstep]
        refine ih (i + 1) (sm_up M' 7 i (nI i)) (by omega) ?_ (fun j hj => ?_) (fun q hq => ?_) (fun j hj => ?_)
        · rw [tk]
          exact tabM_o (fun q a b => up_ne (by omega)) (by rw [up_ne (by decide)]) hT'
        · by_cases g : j = i
          · rw [g, up_at]
          · rw [up_as g, ho 7 (by decide)]
            exact h2 j (by omega)
        · rw [up_ne (by omega), ho q (by omega)]
          exact h3 q hq
        · rw [up_ne (by decide), ho1 j hj]
          exact h4 j hj
    · exfalso
      obtain ⟨m, o1, o2, o3, et'⟩ := tyok_mk (hok _ (List.mem_of_getElem? hg))
      exact ty_mk_hid (et'.symm.trans et)
theorem r_85 {n : Nat} (hn : n ≤ 30) (h7 : Y 1 7 = nI n) (hw : jR_writeProgram x [] Y = some (1, [], Z)) : jR_compile_85 x (nI n) [] Y = some (rsM (sm_up (sm_up Z 1 38 (Z 1 52)) 1 37 1) 1 39, [], rsM (sm_up (sm_up Z 1 38 (Z 1 52)) 1 37 1)) := by
  unfold jR_compile_85
  refine sm_lp_end ?_
  show jR_compile_85_c x (nI n) [] Y = _
  unfold jR_compile_85_c
  simp only [sm_wr]
  rw [h7, if_neg (nI_nlt (Nat.le_refl _) (by omega)), hw, bi_some, dq_self, bo_1, r_restart, bi_some, dq_self]
end
section
variable {p nE d0 d1 d2 d3 d4 : Nat} {B Bm : sm_M} {L LM0 FR : List Ty} {nC nB cur nV nD : Nat} {LC LR : List Ty} {W : Nat → Ty} {A : Nat → Option Ty} {TE : Nat → Ty} {BD : Nat → List Ty} {Mc Mm : sm_M}
theorem sw_ct {o : Nat → Int32} : ∀ n : Nat, sw0 o n + ct4 o n ≤ 2 * n
  | 0 => Nat.le_refl _
  | n + 1 => by
    have h := sw_ct (o := o) n
    show sw0 o n + cwt (o n) + (ct4 o n + (if o n = 4 then 1 else 0)) ≤ 2 * (n + 1)
    have h2 : cwt (o n) + (if o n = 4 then 1 else 0) ≤ 2 := by
      unfold cwt
      by_cases g : o n = 4
      · rw [if_pos g, if_pos g]; decide
      · rw [if_neg g, if_neg g]
        by_cases g2 : o n = 6 ∨ o n = 8
        · rw [if_pos g2]; decide
        · rw [if_neg g2]; decide
    omega
/-- the class's verdict on what it has written -/
theorem w_ver (hg : [p] ∈ gC) (hp : 40 ≤ p) (hL : L.length + FR.length ≤ 60) (hS : wS p nE B Bm L LM0 FR nD [] [] nC nB cur nV nD LC LR W A TE BD Mc Mm) : ∃ (v : Int32) (M' : sm_M), jK_verdictOn p d0 d1 d2 d3 d4 (sm_up Mc p 13 1) = some (v, [d0, d1, d2, p, d4], M') ∧ pVV nB W A (Mm 29) (Mm 30) (Mm 31) (Mm 32) (Mm 33) (Mm 34) v ∧ tabC M' LC ∧ ∀ q, 8 < q → q ≠ 32 → M' q = sm_up Mc p 13 1 q := by
  obtain ⟨⟨n1, n2, n3, n4, n5, n6⟩, ⟨t1, t2, t3, t4, t5, t6, t7, t8, t9, t10⟩, ⟨c6, c11, c12, c15, c5, c9⟩, ⟨m39, m52, m54, m47, m50, m53⟩, hR, ⟨⟨k1, k2, k3, k4, k5⟩, hcu⟩, hE, hB, fc, fr⟩ := hS
  have bo : ∀ b, b < nB → wBo p nC LC LR A Mc Mm b := fun b hb => (k1 b hb).resolve_right (by simp)
  have o : ∀ q, q ≠ p → sm_up Mc p 13 1 q = Mc q := fun q hq => up_ne hq
  refine c_vv (FR := FR) hg (by omega) ⟨n1, n2, ?_, fun i hi => ?_, fun k hk => ?_⟩ (fun b hb => ?_) t7 t9 (fun t ht => Or.inl (t8 t ht)) (fun s l hs => ?_) (tabC_o (fun q hq => o q (by omega)) t1)
  · rw [up_as (by decide)]; exact c11
  · obtain ⟨e1, e2, e3, e4, e5, e6⟩ := hR i hi
    rw [o (p + 1) (by omega), o (p + 2) (by omega), o (p + 3) (by omega), o (p + 4) (by omega)]
    exact ⟨e1, e2, e3, fun q => (e5 q).1, fun q => ⟨(e6 q).1, (e6 q).2.2.2⟩, e4⟩
  · rw [o (p + 8) (by omega)]
    have z := (bo (k / 3) (by omega)).2 (k % 3) (by omega)
    rw [show 3 * (k / 3) + k % 3 = k by omega] at z
    exact z.1
  · obtain ⟨⟨s, l, q0, q1, q2, q3, q4⟩, -⟩ := bo b hb
    exact ⟨s, l, q0, by rw [o (p + 6) (by omega)]; exact q1, q2, by rw [o (p + 7) (by omega)]; exact q3, q4⟩
  · have z1 := swt_all (o := Mm 29) hs
    have z2 := sw_ct (o := Mm 29) nC
    omega
end
