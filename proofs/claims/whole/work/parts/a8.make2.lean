/-! make, the rest -/
def stC (M : sm_M) (n : Nat) (k a x y z h : Int32) : sm_M := sm_up (sm_up (sm_up (sm_up (sm_up (sm_up (sm_up M 10 n k) 11 n a) 12 n x) 13 n y) 14 n z) 15 n h) 9 6 (nI (n + 1))
def stM (M : sm_M) (n : Nat) (k a x y z h : Int32) : sm_M := sm_up (sm_up (sm_up (sm_up (sm_up (sm_up (sm_up M 12 n k) 13 n a) 14 n x) 15 n y) 16 n z) 17 n h) 1 13 (nI (n + 1))
section
variable {pV : pVt} {nB nC p d1 d3 d4 n : Nat} {L LM : List Ty} {W : Nat → Ty} {A : Nat → Option Ty} {Mc Mm N : sm_M} {D : sm_D} {k a x y z h : Int32}
theorem stC_o {q : Nat} (hq : q < 9 ∨ 15 < q) : stC Mc n k a x y z h q = Mc q := by
  unfold stC
  rw [up_ne (by omega), up_ne (by omega), up_ne (by omega), up_ne (by omega), up_ne (by omega), up_ne (by omega), up_ne (by omega)]
theorem stM_o {q : Nat} (h1 : q ≠ 1) (hq : q < 12 ∨ 17 < q) : stM N n k a x y z h q = N q := by
  unfold stM
  rw [up_ne (by omega), up_ne (by omega), up_ne (by omega), up_ne (by omega), up_ne (by omega), up_ne (by omega), up_ne (by omega)]
theorem stM_1 {j : Nat} (hj : j ≠ 13) : stM N n k a x y z h 1 j = N 1 j := by
  unfold stM
  rw [up_as hj, up_ne (by decide), up_ne (by decide), up_ne (by decide), up_ne (by decide), up_ne (by decide), up_ne (by decide)]
theorem stC_10 : stC Mc n k a x y z h 10 = upd (Mc 10) n k := by
  unfold stC
  rw [up_ne (by decide), up_ne (by decide), up_ne (by decide), up_ne (by decide), up_ne (by decide), up_ne (by decide), sm_up_same]
theorem stC_11 : stC Mc n k a x y z h 11 = upd (Mc 11) n a := by
  unfold stC
  rw [up_ne (by decide), up_ne (by decide), up_ne (by decide), up_ne (by decide), up_ne (by decide), sm_up_same, up_ne (by decide)]
theorem stC_12 : stC Mc n k a x y z h 12 = upd (Mc 12) n x := by
  unfold stC
  rw [up_ne (by decide), up_ne (by decide), up_ne (by decide), up_ne (by decide), sm_up_same, up_ne (by decide), up_ne (by decide)]
theorem stC_13 : stC Mc n k a x y z h 13 = upd (Mc 13) n y := by
  unfold stC
  rw [up_ne (by decide), up_ne (by decide), up_ne (by decide), sm_up_same, up_ne (by decide), up_ne (by decide), up_ne (by decide)]
theorem stC_14 : stC Mc n k a x y z h 14 = upd (Mc 14) n z := by
  unfold stC
  rw [up_ne (by decide), up_ne (by decide), sm_up_same, up_ne (by decide), up_ne (by decide), up_ne (by decide), up_ne (by decide)]
theorem stC_15 : stC Mc n k a x y z h 15 = upd (Mc 15) n h := by
  unfold stC
  rw [up_ne (by decide), sm_up_same, up_ne (by decide), up_ne (by decide), up_ne (by decide), up_ne (by decide), up_ne (by decide)]
theorem stM_12 : stM N n k a x y z h 12 = upd (N 12) n k := by
  unfold stM
  rw [up_ne (by decide), up_ne (by decide), up_ne (by decide), up_ne (by decide), up_ne (by decide), up_ne (by decide), sm_up_same]
theorem stM_13 : stM N n k a x y z h 13 = upd (N 13) n a := by
  unfold stM
  rw [up_ne (by decide), up_ne (by decide), up_ne (by decide), up_ne (by decide), up_ne (by decide), sm_up_same, up_ne (by decide)]
theorem stM_14 : stM N n k a x y z h 14 = upd (N 14) n x := by
  unfold stM
  rw [up_ne (by decide), up_ne (by decide), up_ne (by decide), up_ne (by decide), sm_up_same, up_ne (by decide), up_ne (by decide)]
theorem stM_15 : stM N n k a x y z h 15 = upd (N 15) n y := by
  unfold stM
  rw [up_ne (by decide), up_ne (by decide), up_ne (by decide), sm_up_same, up_ne (by decide), up_ne (by decide), up_ne (by decide)]
theorem stM_16 : stM N n k a x y z h 16 = upd (N 16) n z := by
  unfold stM
  rw [up_ne (by decide), up_ne (by decide), sm_up_same, up_ne (by decide), up_ne (by decide), up_ne (by decide), up_ne (by decide)]
theorem stM_17 : stM N n k a x y z h 17 = upd (N 17) n h := by
  unfold stM
  rw [up_ne (by decide), sm_up_same, up_ne (by decide), up_ne (by decide), up_ne (by decide), up_ne (by decide), up_ne (by decide)]
theorem e_store {kk : Nat} {g : Nat} (hk : kk ≤ 10) (hn : n < 40) (h6 : Mc 9 6 = nI n) (hg : g < 2 ^ 30) (hh : jE_heightOver (nI (tPn kk)) x y z D Mc = some (nI (g + 1), D, Mc)) : jE_keep_38 (nI kk) a x y z D Mc = (if 8 < g + 1 then some (-1, D, Mc) else some (nI n, D, stC Mc n (nI kk) a x y z (nI (g + 1)))) := by
  have ht : sm_tab tPARTS kk = nI (tPn kk) := rfl
  unfold jE_keep_38
  rw [ck_nI (by omega) (by decide), nI_clamp (by omega), ht, hh, bi_some, dq_self, if_neg (nI_m1 (by omega))]
  by_cases h8 : 8 < g + 1
  · rw [if_pos (show (8 : Int32) < nI (g + 1) from nI_lt h8 (by omega)), if_pos h8]
    rfl
  · have kn : ∀ {ρ : Type} {q : Option ρ}, sm_ck (nI n) 40 q = q := ck_nI hn (by decide)
    have cn : (nI n).toNatClampNeg = n := nI_clamp (by omega)
    rw [if_neg (show ¬ (8 : Int32) < nI (g + 1) from nI_nlt (a := 8) (by omega) (by decide)), if_neg h8]
    simp only [sm_wr, u9 (show (9 : Nat) ≠ 10 by decide), u9 (show (9 : Nat) ≠ 11 by decide), u9 (show (9 : Nat) ≠ 12 by decide), u9 (show (9 : Nat) ≠ 13 by decide), u9 (show (9 : Nat) ≠ 14 by decide), u9 (show (9 : Nat) ≠ 15 by decide), h6, kn, cn, up_at, nI_1, nI_pred]
    rfl
theorem r_store {g : Nat} (hn : n < 40) (h13 : N 1 13 = nI n) (hg : g < 2 ^ 30) : jR_make_202 k a x y z (nI g) [] N = (if 8 < g + 1 then some (-1, [], N) else some (nI n, [], stM N n k a x y z (nI (g + 1)))) := by
  unfold jR_make_202
  rw [nI_1]
  by_cases h8 : 8 < g + 1
  · rw [if_pos (show (8 : Int32) < nI (g + 1) from nI_lt h8 (by omega)), if_pos h8]
  · have kn : ∀ {ρ : Type} {q : Option ρ}, sm_ck (nI n) 40 q = q := ck_nI hn (by decide)
    have cn : (nI n).toNatClampNeg = n := nI_clamp (by omega)
    have u1 : ∀ {M : sm_M} {q j : Nat} {x : Int32}, 1 ≠ q → sm_up M q j x 1 = M 1 := fun h => up_ne h
    rw [if_neg (show ¬ (8 : Int32) < nI (g + 1) from nI_nlt (a := 8) (by omega) (by decide)), if_neg h8]
    simp only [sm_wr, h13, kn, cn, u1 (show (1 : Nat) ≠ 12 by decide), u1 (show (1 : Nat) ≠ 13 by decide), u1 (show (1 : Nat) ≠ 14 by decide), u1 (show (1 : Nat) ≠ 15 by decide), u1 (show (1 : Nat) ≠ 16 by decide), u1 (show (1 : Nat) ≠ 17 by decide), nI_1]
    rfl
theorem hm_x {np gx gy gz : Nat} (h : 0 < np) : gx ≤ hm np gx gy gz := by
  match np, h with
  | 1, _ => exact Nat.le_refl _
  | 2, _ => show gx ≤ if gx < gy then gy else gx; split <;> omega
  | np + 3, _ => show gx ≤ if (if gx < gy then gy else gx) < gz then gz else if gx < gy then gy else gx; split <;> split at * <;> omega
theorem hm_y {np gx gy gz : Nat} (h : 1 < np) : gy ≤ hm np gx gy gz := by
  match np, h with
  | 2, _ => show gy ≤ if gx < gy then gy else gx; split <;> omega
  | np + 3, _ => show gy ≤ if (if gx < gy then gy else gx) < gz then gz else if gx < gy then gy else gx; split <;> split at * <;> omega
theorem hm_z {np gx gy gz : Nat} (h : 2 < np) : gz ≤ hm np gx gy gz := by
  match np, h with
  | np + 3, _ => show gz ≤ if (if gx < gy then gy else gx) < gz then gz else if gx < gy then gy else gx; split <;> split <;> omega
theorem exA.part {w : Int32} {g h' : Nat} (hx : exA n Mc w g) (hg : g < h') : exP (stC Mc n k a x y z h) n h' w := by
  obtain ⟨e, he, h1, h2, -⟩ := hx
  refine ⟨e, g, he, h1, ?_, hg⟩
  rw [stC_15, upd_ne (by omega)]
  exact h2
end
