/-! compile: the relation with the new code -/
section
variable {p d1 nE : Nat} {L LM LR LC FR : List Ty} {nC nB nC' nB' cur nV nD : Nat} {W W' : Nat → Ty} {A A' : Nat → Option Ty} {TE : Nat → Ty} {BD : Nat → List Ty} {Mc Mm X Y Z M6 : sm_M} {v : Int32}
theorem rl_done (hp : (p = 40 ∧ d1 = 50) ∨ (p = 50 ∧ d1 = 40)) (h : rl pVV p L LM nC nB W A Mc Mm) (hS : wS d1 nE Mc Y L L FR nD [] [] nC' nB' cur nV nD LC LR W' A' TE BD X Z) (hY : ∀ q, 7 < q → q < 54 → (q < 29 ∨ 46 < q) → Y q = Mm q) (hY1 : ∀ j, j ≠ 1 → j ≠ 39 → (j < 47 ∨ 54 < j) → Y 1 j = Mm 1 j) (hY7 : ∀ j, j < L.length → Y 7 j = nI j) (hv : pVV nB' W' A' (Z 29) (Z 30) (Z 31) (Z 32) (Z 33) (Z 34) v) (hM6 : tabC M6 L) (ho : ∀ q, 8 < q → q ≠ 32 → q ≠ d1 → M6 q = X q) (hd6 : ∀ j, j ≠ 13 → j ≠ 14 → M6 d1 j = X d1 j) (h13 : M6 d1 13 = 1) (h14 : M6 d1 14 = v) : rl pVV d1 L LR nC' nB' W' A' (bgM M6) (rsM (sm_up (sm_up Z 1 38 (Z 1 52)) 1 37 1)) := by
  have hp' : (d1 = 40 ∧ p = 50) ∨ (d1 = 50 ∧ p = 40) := by omega
  have hd : 40 ≤ d1 := by omega
  obtain ⟨⟨a1, a2, a3, a4, a5, a6, a7, a8, a9, a10⟩, x2, x3, x4, x5⟩ := h
  obtain ⟨⟨n1, n2, n3, n4, n5, n6⟩, ⟨t1, t2, t3, ⟨K, t4⟩, t5, t6, t7, t8, t9, t10⟩, ⟨c6, c11, c12, c15, c5, c9⟩, ⟨m39, m52, m54, m47, m50, m53⟩, hR, ⟨⟨k1, k2, k3, k4, k5⟩, hcu⟩, hE, hB, fc, fr⟩ := hS
  have bo : ∀ b, b < nB' → wBo d1 nC' LC LR A' X Z b := fun b hb => (k1 b hb).resolve_right (by simp)
  have hct := ct4_le (o := Z 29) nC'
  generalize hZ : sm_up (sm_up Z 1 38 (Z 1 52)) 1 37 1 = Q
  have z : ∀ q, q ≠ 1 → Q q = Z q := fun q hq => by rw [← hZ, up_ne hq, up_ne hq]
  have z1 : ∀ j, j ≠ 37 → j ≠ 38 → Q 1 j = Z 1 j := fun j a b => by rw [← hZ, up_as a, up_as b]
  have zr : ∀ q, 7 < q → q < 54 → (q < 29 ∨ 46 < q) → Q q = Mm q := fun q a b c => by rw [z q (by omega), fr.1 q (by omega), hY q a b c]
  have zr1 : ∀ j, j ≠ 1 → j ≠ 37 → j ≠ 38 → j ≠ 39 → (j < 47 ∨ 54 < j) → Q 1 j = Mm 1 j := fun j a b c d f => by rw [z1 j b c, fr.2 j a d f, hY1 j a d f]
  have cr : ∀ q, 8 < q → (q < 24 ∨ 30 < q) → (q < d1 ∨ d1 + 9 < q) → q ≠ 32 → M6 q = Mc q := fun q a b c d => by rw [ho q a d (by omega), fc q a b c]
  have e25 : M6 25 0 = 0 := by
    rw [ho 25 (by decide) (by decide) (by omega)]
    have q1 := (hE 0 n4).1
    rw [(hE 0 n4).o0 rfl] at q1
    exact ty_pr.inj t1.2.2.1 q1 (Or.inr ⟨0, tyN, rfl, t9, nI_0.symm⟩)
  refine rl_begin hp' ⟨hM6, a2, a3, a4, tabM_o (fun q a b => z q (by omega)) (z1 1 (by decide) (by decide)) t3, by omega, t10, by rw [zr1 7 (by decide) (by decide) (by decide) (by decide) (by decide)]; exact a8, fun i t hi => ⟨i, ?_, ?_⟩, fun i hi => ?_⟩ (x2.o (fun q a b => cr q (by omega) (by omega) (by omega) (by omega)) (fun q a b => zr q (by omega) (by omega) (by omega)) (zr1 13 (by decide) (by decide) (by decide) (by decide) (by decide))) ⟨?_, e25⟩ ⟨n1, n2, by rw [hd6 6 (by decide) (by decide)]; exact c6, by rw [z1 39 (by decide) (by decide)]; exact m39, by rw [hd6 11 (by decide) (by decide)]; exact c11, by rw [← hZ, up_as (by decide), up_at]; exact m52, by rw [← hZ, up_at, h13], fun i hi => ?_, fun b hb => ?_, fun k hk => ?_, Or.inr ⟨h13, ?_⟩⟩
  · rw [t4, List.getElem?_append_left (List.getElem?_eq_some_iff.mp hi).1]
    exact hi
  · rw [z 7 (by decide), fr.1 7 (by decide)]
    exact hY7 i (List.getElem?_eq_some_iff.mp hi).1
  · have hg : L[i]? = some L[i] := List.getElem?_eq_getElem hi
    obtain ⟨m, o1, o2, o3, et⟩ := tyok_mk (a4 _ (List.mem_of_getElem? hg)).1
    rw [et] at hg
    obtain ⟨e2, e3, e4, e5⟩ := tab_same (K := []) a1 (by rw [List.append_nil]; exact hM6) hg
    rw [e2, e3, e4, e5, zr 8 (by decide) (by decide) (by decide), zr 9 (by decide) (by decide) (by decide), zr 10 (by decide) (by decide) (by decide), zr 11 (by decide) (by decide) (by decide)]
    exact a10 i hi
  · rw [zr1 29 (by decide) (by decide) (by decide) (by decide) (by decide), cr 18 (by decide) (by decide) (by omega) (by decide)]
    exact x3.1
  · obtain ⟨e1, e2, e3, e4, e5, e6⟩ := hR i hi
    rw [ho (d1 + 1) (by omega) (by omega) (by omega), ho (d1 + 2) (by omega) (by omega) (by omega), ho (d1 + 3) (by omega) (by omega) (by omega), ho (d1 + 4) (by omega) (by omega) (by omega), ho (d1 + 5) (by omega) (by omega) (by omega), z 29 (by decide), z 30 (by decide), z 31 (by decide), z 32 (by decide)]
    exact ⟨e1, e2, e3, e4, e5, fun q => (e6 q).2⟩
  · rw [ho (d1 + 6) (by omega) (by omega) (by omega), ho (d1 + 7) (by omega) (by omega) (by omega), z 33 (by decide), z 34 (by decide)]
    exact (bo b hb).1
  · have q := (bo (k / 3) (by omega)).2 (k % 3) (by omega)
    rw [show 3 * (k / 3) + k % 3 = k by omega] at q
    rw [ho (d1 + 9) (by omega) (by omega) (by omega), z 35 (by decide)]
    exact q.2
  · rw [h14, z 29 (by decide), z 30 (by decide), z 31 (by decide), z 32 (by decide), z 33 (by decide), z 34 (by decide)]
    exact hv
end
