/-! compile: calls, where they do not fit -/
noncomputable def cC3 (p d0 d1 d2 d3 v : Nat) (x2 x6 : Int32) (M : sm_M) : Option sm_S := sm_bi (sm_ga [p] gC (jC_open p x6 (M 25 v) x2 (-1) [d0, d1, d2, d3, p] M)) (fun _ E M' => sm_dq E [d0, d1, d2, d3, p] (some (x2, [d0, d1, d2, d3, p], M')))
noncomputable def cC2 (p d0 d1 d2 d3 v : Nat) (x2 x6 x10 : Int32) (M : sm_M) : Option sm_S := cPuts p [d0, d1, d2, d3, p] (cC3 p d0 d1 d2 d3 v x2 x6) [(7, 3, 4, x10, x10), (5, 4, 1, 1, 1), (8, 5, 1, 4, 4), (11, 5, 0, 0, 0)] M
noncomputable def cC1 (p d0 d1 d2 d3 v : Nat) (x2 x6 : Int32) (M : sm_M) : Option sm_S := sm_bi (jT_find 3 x2 (-1) (-1) [d0, d1, d2, d3, p] M) (fun x10 E M' => sm_dq E [d0, d1, d2, d3, p] (cC2 p d0 d1 d2 d3 v x2 x6 x10 M'))
noncomputable def cC0 (p d0 d1 d2 d3 v : Nat) (x2 x6 : Int32) (M : sm_M) : Option sm_S := cPuts p [d0, d1, d2, d3, p] (cC1 p d0 d1 d2 d3 v x2 x6) [(6, 4, x6, 0, 0), (5, 5, 1, 0, 0), (4, 4, 4, 5, 5)] M
noncomputable def cCa (p d0 d1 d2 d3 v : Nat) (x2 : Int32) (M : sm_M) : Option sm_S := sm_bi (sm_ga [p] gC (jC_reserve p [d0, d1, d2, d3, p] M)) (fun x6 E M' => sm_dq E [d0, d1, d2, d3, p] (cC0 p d0 d1 d2 d3 v x2 x6 M'))
noncomputable def rC3 (x2 w2 : Int32) (M : sm_M) : Option sm_S := if M 1 47 = 0 then sm_ck (M 1 51) 1200 (sm_bi (jR_beginBlock x2 (M 42 (Int32.toNatClampNeg (M 1 51))) w2 (-1) [] M) (fun _ E M' => sm_dq E [] (jR_call_128 w2 [] M'))) else jR_call_128 w2 [] M
noncomputable def rC2b (x2 w2 : Int32) (M : sm_M) : Option sm_S := sm_ck (M 1 51) 1200 (rC3 x2 w2 (sm_up M 1 51 (M 40 (Int32.toNatClampNeg (M 1 51)))))
noncomputable def rC2 (x2 w2 x6 : Int32) (M : sm_M) : Option sm_S := rPuts (rC2b x2 w2) [(7, 3, 4, x6, x6), (5, 4, 1, 1, 1), (8, 5, 1, 4, 4), (11, 5, 0, 0, 0)] M
noncomputable def rC1 (x2 w2 : Int32) (M : sm_M) : Option sm_S := sm_bi (jR_find 3 w2 (-1) (-1) [] M) (fun x6 E M' => sm_dq E [] (rC2 x2 w2 x6 M'))
noncomputable def rC0 (x2 w2 : Int32) (M : sm_M) : Option sm_S := rPuts (rC1 x2 w2) [(6, 4, x2, 0, 0), (5, 5, 1, 0, 0), (4, 4, 4, 5, 5)] M
section
variable {p nE d0 d1 d2 d3 : Nat} {B Bm : sm_M} {L LM0 FR : List Ty} {k0 : Nat} {Ex PB : List Nat} {nC nB cur nV nD N mV k r v v' e m m' n h kd s1 : Nat} {LC LR : List Ty} {W : Nat → Ty} {A : Nat → Option Ty} {TE : Nat → Ty} {BD : Nat → List Ty} {Mc Mm Mc' Mm' M : sm_M} {D : sm_D} {a b c x x' y y' z z' x2 x6 w2 : Int32} {t ta tb : Ty} {o1 o2 o3 ox : Option Ty}
theorem c_C3O (hg : [p] ∈ gC) (hp : 40 ≤ p) (hv : v < mV) (hO : wOc p B L LC N mV M) (hx : ty_pr LC x2 ox) : cOv p B L LC N mV [d0, d1, d2, d3, p] (cC3 p d0 d1 d2 d3 v x2 x6 M) := by
  obtain ⟨o, ho, -⟩ := hO.1.2 v (Or.inl hv)
  unfold cC3
  exact cOv.opn hg hp hO ho hx m1n (fun M' hO' => by rw [dq_self]; exact cOv.ret hO' hx)
theorem c_C2O (hg : [p] ∈ gC) (hp : 40 ≤ p) (hv : v < mV) (hO : wOc p B L LC N mV M) (hx : ty_pr LC x2 ox) {w : Ty} (h10 : ty_pr LC x (some w)) : cOv p B L LC N mV [d0, d1, d2, d3, p] (cC2 p d0 d1 d2 d3 v x2 x6 x M) := by
  unfold cC2
  refine cOv.puts hg hp hO (fun i hi => ?_) (fun M' hO' => c_C3O hg hp hv hO' hx)
  simp only [List.mem_cons, List.not_mem_nil, or_false] at hi
  rcases hi with rfl | rfl | rfl | rfl
  · exact ⟨show (7 : Nat) ≤ 12 by decide, fun _ => ⟨w, h10⟩⟩
  · exact ⟨show (5 : Nat) ≤ 12 by decide, fun q => absurd q (show ¬ (5 : Nat) = 7 by decide)⟩
  · exact ⟨show (8 : Nat) ≤ 12 by decide, fun q => absurd q (show ¬ (8 : Nat) = 7 by decide)⟩
  · exact ⟨show (11 : Nat) ≤ 12 by decide, fun q => absurd q (show ¬ (11 : Nat) = 7 by decide)⟩
theorem c_C1O (hg : [p] ∈ gC) (hp : 40 ≤ p) (hv : v < mV) (hN : N < 800) (hO : wOc p B L LC N mV M) (hx : ty_pr LC x2 ox) : cOv p B L LC (N + 1) mV [d0, d1, d2, d3, p] (cC1 p d0 d1 d2 d3 v x2 x6 M) := by
  obtain ⟨w, K, M', f1, f2, f3⟩ := c_findO (D := [d0, d1, d2, d3, p]) (n := 3) (y := -1) (z := -1) hp hO hN (by decide) hx m1n m1n
  have f1' : jT_find 3 x2 (-1) (-1) [d0, d1, d2, d3, p] M = some (w, [d0, d1, d2, d3, p], M') := f1
  unfold cC1
  rw [f1', bi_some, dq_self]
  exact cOv.back (K := K) (c_C2O hg hp hv f3 hx.grow f2)
theorem c_C0O (hg : [p] ∈ gC) (hp : 40 ≤ p) (hv : v < mV) (hN : N < 800) (hO : wOc p B L LC N mV M) (hx : ty_pr LC x2 ox) : cOv p B L LC (N + 1) mV [d0, d1, d2, d3, p] (cC0 p d0 d1 d2 d3 v x2 x6 M) := by
  unfold cC0
  refine cOv.puts hg hp hO (fun i hi => ?_) (fun M' hO' => c_C1O hg hp hv hN hO' hx)
  simp only [List.mem_cons, List.not_mem_nil, or_false] at hi
  rcases hi with rfl | rfl | rfl
  · exact ⟨show (6 : Nat) ≤ 12 by decide, fun q => absurd q (show ¬ (6 : Nat) = 7 by decide)⟩
  · exact ⟨show (5 : Nat) ≤ 12 by decide, fun q => absurd q (show ¬ (5 : Nat) = 7 by decide)⟩
  · exact ⟨show (4 : Nat) ≤ 12 by decide, fun q => absurd q (show ¬ (4 : Nat) = 7 by decide)⟩
theorem c_CaO (hg : [p] ∈ gC) (hp : 40 ≤ p) (hv : v < mV) (hN : N < 800) (hO : wOc p B L LC N mV M) (hx : ty_pr LC x2 ox) : cOv p B L LC (N + 1) mV [d0, d1, d2, d3, p] (cCa p d0 d1 d2 d3 v x2 M) := by
  unfold cCa
  exact cOv.res hg hp hO (fun x M' hO' => by rw [dq_self]; exact c_C0O hg hp hv hN hO' hx)
theorem r_C3O (hO : wOr Bm LM0 LR M) (hr : r < 400) (h49 : M 1 49 = nI r) : rC3 x2 w2 M = some (0, [], rPu M r w2) := by
  unfold rC3 jR_call_128
  rw [hO.2.2.1, if_neg (by decide), r_fin hr h49, bi_some, dq_self]
theorem r_C2bO (hO : wOr Bm LM0 LR M) (hr : r < 400) (h49 : M 1 49 = nI r) (hv : v' < 1200) (h51 : M 1 51 = nI v') : ∃ M', rC2b x2 w2 M = some (0, [], rPu M' r w2) ∧ wOr Bm LM0 LR M' := by
  refine ⟨sm_up M 1 51 (M 40 v'), ?_, wOr_w hO (fun q a _ => up_ne a) (fun j hj => up_as (by omega))⟩
  unfold rC2b
  rw [h51, ck_nI hv (by decide), nI_clamp (by omega)]
  exact r_C3O (LR := LR) (wOr_w hO (fun q a _ => up_ne a) (fun j hj => up_as (by omega))) hr (by rw [up_as (by decide)]; exact h49)
theorem r_C1O (hO : wOr Bm LM0 LR M) (hl : LR.length < 3000) (hr : r < 400) (h49 : M 1 49 = nI r) (hv : v' < 1200) (h51 : M 1 51 = nI v') (hw : ty_pr LR w2 ox) : ∃ K M', rC1 x2 w2 M = some (0, [], rPu M' r w2) ∧ wOr Bm LM0 (LR ++ K) M' := by
  obtain ⟨w, K, M', f1, f2, f3, f4, f5, -⟩ := r_findO (n := 3) (y := -1) (z := -1) hO hl (by decide) hw m1n m1n
  have f1' : jR_find 3 w2 (-1) (-1) [] M = some (w, [], M') := f1
  obtain ⟨M2, g1, g2⟩ := r_C2bO (x2 := x2) (w2 := w2) f3 hr (by rw [f5 49 (by decide)]; exact h49) hv (by rw [f5 51 (by decide)]; exact h51)
  refine ⟨K, M2, ?_, g2⟩
  unfold rC1 rC2
  rw [f1', bi_some, dq_self, r_putsO f3.2.2.1]
  exact g1
/-- what the reference's item 8 comes to -/
theorem r_it8 {j : Nat} (hk : k < 400) (hr : r < 400) (hv : v' < 1200) (h48 : M 1 48 = nI (k + 1)) (h36 : M 36 k = nI 8) (h49 : M 1 49 = nI (r + 1)) (h51 : M 1 51 = nI v') (h41 : M 41 v' = nI j) (hj : j < 3000) : jR_doNext [] M = sm_bi (sm_bi (jR_name [] (sm_up (sm_up M 1 48 (nI k)) 1 49 (nI r))) (fun x2 E M' => sm_dq E [] (rC0 x2 (M 4 j) M'))) (fun _ E M' => sm_dq E [] (some (0, [], M'))) := by
  have hd := r_done (M := sm_up M 1 48 (nI k)) hr (by rw [up_as (by decide)]; exact h49)
  have o51 : sm_up (sm_up M 1 48 (nI k)) 1 49 (nI r) 1 51 = nI v' := by rw [up_as (by decide), up_as (by decide)]; exact h51
  have o41 : sm_up (sm_up M 1 48 (nI k)) 1 49 (nI r) 41 = M 41 := by rw [up_ne (by decide), up_ne (by decide)]
  have o4 : sm_up (sm_up M 1 48 (nI k)) 1 49 (nI r) 4 = M 4 := by rw [up_ne (by decide), up_ne (by decide)]
  rw [(r_item (y := M 37 k) hk h48 h36 rfl).2.2.2 rfl]
  refine congrArg (fun q => sm_bi q (fun _ E M' => sm_dq E [] (some (0, [], M')))) ?_
  unfold jR_call
  rw [hd, bi_some, dq_self, o51, ck_nI hv (by decide), nI_clamp (by omega), o41, h41, ck_nI hj (by decide), nI_clamp (by omega), o4]
  rfl
end
