/-! compile: kinds 2, 3, 4 and 8 -/
noncomputable def tF (p d0 d1 d2 d3 n e : Nat) (x1 x4 : Int32) (M4 : sm_M) : Option sm_S := sm_bi (sm_ga [p] gC (jC_put p 5 4 1 1 [d0, d1, d2, d3, p] M4)) (fun _ E5 M5 => sm_dq E5 [d0, d1, d2, d3, p] (sm_bi (jW_operationFor (M5 10 e) [d0, d1, d2, d3, p] M5) (fun x6 E6 M6 => sm_dq E6 [d0, d1, d2, d3, p] (sm_bi (sm_ga [p] gC (jC_put p x6 2 4 2 [d0, d1, d2, d3, p] M6)) (fun _ E7 M7 => sm_dq E7 [d0, d1, d2, d3, p] (sm_bi (sm_ga [p] gC (jC_put p 5 1 1 0 [d0, d1, d2, d3, p] M7)) (fun _ E8 M8 => sm_dq E8 [d0, d1, d2, d3, p] (if M8 10 e = (8 : Int32) then sm_dq [d0, d1, d2, d3, p] [d0, d1, d2, d3, p] (jW_writeTwo_111 (jW_write n) d0 d1 d2 d3 p x1 x4 1 M8) else sm_dq [d0, d1, d2, d3, p] [d0, d1, d2, d3, p] (jW_writeTwo_111 (jW_write n) d0 d1 d2 d3 p x1 x4 0 M8))))))))) 
noncomputable def tR (M : sm_M) (kd : Nat) (a b : Int32) : Option sm_S := if kd = 8 then sm_bi (jR_find 1 a b (-1) [] M) (fun x E M' => sm_dq E [] (sm_bi (jR_finish x [] M') (fun _ E2 M2 => sm_dq E2 [] (some (0, [], M2))))) else sm_bi (jR_finish 0 [] M) (fun _ E2 M2 => sm_dq E2 [] (some (0, [], M2)))
section
variable {p nE d0 d1 d2 d3 : Nat} {B Bm : sm_M} {L LM0 FR : List Ty} {k0 : Nat} {Ex PB : List Nat} {nC nB cur nV nD N mV k r v e m m' n h kd s1 : Nat} {LC LR : List Ty} {W : Nat → Ty} {A : Nat → Option Ty} {TE : Nat → Ty} {BD : Nat → List Ty} {Mc Mm Mc' Mm' M : sm_M} {D : sm_D} {a b c x x' y y' z z' : Int32} {t ta tb : Ty} {o1 o2 o3 : Option Ty}
theorem tF_eq {M5 M8 : sm_M} {x1 x4 : Int32} (kk : kd = 2 ∨ kd = 3 ∨ kd = 4 ∨ kd = 8) (h1 : ∀ F : sm_M → Option sm_S, cPuts p [d0, d1, d2, d3, p] F [(5, 4, 1, 1, 1)] M = F M5) (k5 : M5 10 e = nI kd) (h2 : ∀ F : sm_M → Option sm_S, cPuts p [d0, d1, d2, d3, p] F [(if kd = 8 then 4 else kd - 1, 2, 4, 2, 2), (5, 1, 1, 0, 0)] M5 = F M8) (k8 : M8 10 e = nI kd) : tF p d0 d1 d2 d3 n e x1 x4 M = if kd = 8 then sm_bi (jT_find 1 x1 x4 (-1) [d0, d1, d2, d3, p] M8) (fun x E M' => sm_dq E [d0, d1, d2, d3, p] (some (x, [d0, d1, d2, d3, p], M'))) else some (0, [d0, d1, d2, d3, p], M8) := by
  refine (h1 (fun M5 => sm_bi (jW_operationFor (M5 10 e) [d0, d1, d2, d3, p] M5) (fun x6 E6 M6 => sm_dq E6 [d0, d1, d2, d3, p] (sm_bi (sm_ga [p] gC (jC_put p x6 2 4 2 [d0, d1, d2, d3, p] M6)) (fun _ E7 M7 => sm_dq E7 [d0, d1, d2, d3, p] (sm_bi (sm_ga [p] gC (jC_put p 5 1 1 0 [d0, d1, d2, d3, p] M7)) (fun _ E8 M8 => sm_dq E8 [d0, d1, d2, d3, p] (if M8 10 e = (8 : Int32) then sm_dq [d0, d1, d2, d3, p] [d0, d1, d2, d3, p] (jW_writeTwo_111 (jW_write n) d0 d1 d2 d3 p x1 x4 1 M8) else sm_dq [d0, d1, d2, d3, p] [d0, d1, d2, d3, p] (jW_writeTwo_111 (jW_write n) d0 d1 d2 d3 p x1 x4 0 M8))))))))).trans ?_
  show sm_bi (jW_operationFor (M5 10 e) [d0, d1, d2, d3, p] M5) _ = _
  have hop : ∀ {D : sm_D} {M : sm_M}, jW_operationFor (nI kd) D M = some (nI (if kd = 8 then 4 else kd - 1), D, M) := by
    intro D M
    rcases kk with rfl | rfl | rfl | rfl <;> rfl
  rw [k5, hop, bi_some, dq_self]
  refine (h2 (fun M8 => if M8 10 e = (8 : Int32) then sm_dq [d0, d1, d2, d3, p] [d0, d1, d2, d3, p] (jW_writeTwo_111 (jW_write n) d0 d1 d2 d3 p x1 x4 1 M8) else sm_dq [d0, d1, d2, d3, p] [d0, d1, d2, d3, p] (jW_writeTwo_111 (jW_write n) d0 d1 d2 d3 p x1 x4 0 M8))).trans ?_
  show (if M8 10 e = (8 : Int32) then _ else _) = _
  have c8 : nI kd = 8 ↔ kd = 8 := ⟨fun q => nI_inj (by omega) (by decide) (show nI kd = nI 8 from q), fun q => by rw [q]; rfl⟩
  rw [k8, dq_self, dq_self]
  unfold jW_writeTwo_111 jW_writeTwo_134
  by_cases g : kd = 8
  · rw [if_pos (c8.mpr g), if_pos g, if_neg (by decide)]
    simp only [dq_self]
  · rw [if_neg (fun q => g (c8.mp q)), if_neg g, if_pos rfl, dq_self]
/-- the reference's items 2 and 3 -/
theorem r_it23 {v' : Nat} (kk : kd = 2 ∨ kd = 3 ∨ kd = 4 ∨ kd = 8) (hs : s1 = if kd = 8 then 3 else 2) (hk : k < 400) (hr : r < 400) (hv : v' < 1200) (h48 : M 1 48 = nI (k + 1)) (h36 : M 36 k = nI s1) (h37 : M 37 k = nI kd) (h49 : M 1 49 = nI (r + 1)) (h51 : M 1 51 = nI v') : jR_doNext [] M = rPuts (fun M1 => rPuts (fun M2 => sm_ck (M2 1 51) 1200 (tR (sm_up M2 1 51 (M2 40 (Int32.toNatClampNeg (M2 1 51)))) kd (M 41 v') (M 39 r))) [(if kd = 8 then 4 else kd - 1, 2, 4, 2, 2), (5, 1, 1, 0, 0)] M1) [(5, 4, 1, 1, 1)] (sm_up (sm_up M 1 48 (nI k)) 1 49 (nI r)) := by
  have kk4 : ∀ {ρ : Type} {q : Option ρ}, sm_ck (nI k) 400 q = q := ck_nI hk (by decide)
  have ck4 : (nI k).toNatClampNeg = k := nI_clamp (by omega)
  have kv : ∀ {ρ : Type} {q : Option ρ}, sm_ck (nI v') 1200 q = q := ck_nI hv (by decide)
  have cv : (nI v').toNatClampNeg = v' := nI_clamp (by omega)
  have o36 : sm_up M 1 48 (nI k) 36 = M 36 := up_ne (by decide)
  have o37 : sm_up M 1 48 (nI k) 37 = M 37 := up_ne (by decide)
  have o39 : sm_up M 1 48 (nI k) 39 = M 39 := up_ne (by decide)
  have o41 : sm_up (sm_up M 1 48 (nI k)) 1 49 (nI r) 41 = M 41 := by rw [up_ne (by decide), up_ne (by decide)]
  have o51 : sm_up (sm_up M 1 48 (nI k)) 1 49 (nI r) 1 51 = nI v' := by rw [up_as (by decide), up_as (by decide)]; exact h51
  have hd := r_done (M := sm_up M 1 48 (nI k)) hr (by rw [up_as (by decide)]; exact h49)
  have e9 : nI kd - 1 = nI (kd - 1) := by rcases kk with rfl | rfl | rfl | rfl <;> decide
  unfold jR_doNext jR_doNext_323
  simp only [sm_wr, h48, nI_pred, up_at, kk4, ck4, o36, o37, h36, h37]
  by_cases g : kd = 8
  · rw [if_pos g] at hs
    subst hs
    rw [if_neg (show ¬ nI 3 = 0 by decide), if_neg (show ¬ nI 3 = 1 by decide), if_neg (show ¬ nI 3 = 2 by decide), if_pos (show nI 3 = 3 from rfl), hd, bi_some, dq_self, o51, kv, cv, o41, o39]
    simp only [r_popb]
    unfold tR
    simp only [if_pos g]
    rfl
  · rw [if_neg g] at hs
    subst hs
    rw [if_neg (show ¬ nI 2 = 0 by decide), if_neg (show ¬ nI 2 = 1 by decide), if_pos (show nI 2 = 2 from rfl), hd, bi_some, dq_self]
    simp only [r_popb, e9]
    unfold tR
    simp only [if_neg g]
    rfl
end
