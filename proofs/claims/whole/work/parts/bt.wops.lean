/-! compile: blocks, types, environments -/
section
variable {p nE : Nat} {B Bm : sm_M} {L LM0 FR : List Ty} {k0 : Nat} {Ex PB : List Nat} {nC nB cur nV nD N mV : Nat} {LC LR : List Ty} {W : Nat → Ty} {A : Nat → Option Ty} {TE : Nat → Ty} {BD : Nat → List Ty} {Mc Mm Mc' Mm' M : sm_M} {D : sm_D} {a b c c' x x' y y' z z' : Int32} {ox o1 o2 o3 : Option Ty}
theorem wFr.of (h : wFr Bm M) {M' : sm_M} (ho : ∀ q, (7 ≤ q ∧ q ≤ 28) ∨ 46 < q → M' q = M q) (h1 : ∀ j, j ≠ 1 → j ≠ 39 → (j < 47 ∨ 54 < j) → M' 1 j = M 1 j) : wFr Bm M' := ⟨fun q hq => by rw [ho q hq]; exact h.1 q hq, fun j a b c => by rw [h1 j a b c]; exact h.2 j a b c⟩
/-- both sides reserve a block -/
theorem w_res (hp : 40 ≤ p) (hS : wS p nE B Bm L LM0 FR k0 Ex PB nC nB cur nV nD LC LR W A TE BD Mc Mm) (hLN : LC.length ≤ N) :
    (∃ (Mc' Mm' : sm_M), jC_reserve p D Mc = some (nI nB, D, Mc') ∧ jR_name [] Mm = some (nI nB, [], Mm') ∧ nB < 40 ∧ wS p nE B Bm L LM0 FR k0 (nB :: Ex) PB nC (nB + 1) cur nV nD LC LR W A TE BD Mc' Mm' ∧ (∀ q, q ≠ 1 → Mm' q = Mm q) ∧ ∀ j, j ≠ 52 → Mm' 1 j = Mm 1 j) ∨
    (∃ (x : Int32) (Mc' : sm_M), jC_reserve p D Mc = some (-1, D, Mc') ∧ wOc p B L LC N nV Mc' ∧ jR_name [] Mm = some (x, [], sm_up Mm 1 47 1) ∧ wOr Bm LM0 LR (sm_up Mm 1 47 1)) := by
  obtain ⟨⟨n1, n2, n3, n4, n5, n6⟩, ⟨t1, t2, t3, t4, t5, t6, t7, t8, t9, t10⟩, ⟨c6, c11, c12, c15, c5, c9⟩, ⟨m39, m52, m54, m47, m50, m53⟩, hR, ⟨⟨k1, k2, k3, k4, k5⟩, hcu⟩, hE, hB, fc, fr⟩ := hS
  by_cases g : nB < 40
  · have o : ∀ q, q ≠ 1 → sm_up Mm 1 52 (nI (nB + 1)) q = Mm q := fun q hq => up_ne hq
    have o1 : ∀ j, j ≠ 52 → sm_up Mm 1 52 (nI (nB + 1)) 1 j = Mm 1 j := fun j hj => up_as hj
    have ne : ¬ nI nB = (40 : Int32) := fun q => by
      have := nI_inj (by omega) (by decide) (show nI nB = nI 40 from q)
      omega
    have hmem : ∀ b, b ∈ (nB :: Ex) ++ PB ↔ b = nB ∨ b ∈ Ex ++ PB := fun b => by rw [List.cons_append, List.mem_cons]
    have hbo : ∀ b, b ≠ nB → wBo p nC LC LR A Mc Mm b → wBo p nC LC LR A (rvC Mc p nB) (sm_up Mm 1 52 (nI (nB + 1))) b := by
      intro b hb h
      unfold wBo at h ⊢
      rw [rvC_o (by omega) (by omega), rvC_7, upd_ne hb, rvC_o (by omega) (by omega), rvC_o (by omega) (by omega), o 33 (by decide), o 34 (by decide), o 35 (by decide)]
      exact h
    refine Or.inl ⟨_, sm_up Mm 1 52 (nI (nB + 1)), c_reserve c11 g, ?_, g, ⟨⟨n1, by omega, by omega, n4, by rw [o 29 (by decide)]; exact n5, by omega⟩, ⟨tabC_o (fun q hq => rvC_o (by omega) (by omega)) t1, t2, tabM_o (fun q q1 q2 => o q (by omega)) (o1 1 (by decide)) t3, t4, by rw [o 29 (by decide)]; exact t5, by rw [o 29 (by decide)]; exact t6, t7, t8, t9, t10⟩, ⟨by rw [rvC_p (by decide)]; exact c6, up_at, by rw [rvC_p (by decide)]; exact c12, by rw [rvC_p (by decide)]; exact c15, by rw [rvC_o (by omega) (by omega)]; exact c5, by rw [rvC_o (by omega) (by omega)]; exact c9⟩, ⟨by rw [o1 39 (by decide)]; exact m39, up_at, by rw [o1 54 (by decide)]; exact m54, by rw [o1 47 (by decide)]; exact m47, by rw [o1 50 (by decide)]; exact m50, by rw [o1 53 (by decide)]; exact m53⟩, fun i hi => ?_, ⟨⟨fun b hb => ?_, fun b hb => ?_, ?_, k4, fun i b hb => ?_⟩, hbo cur (by omega) hcu⟩, fun i hi => ?_, fun k hk => ?_, fc.of (fun q a b c => rvC_o (by omega) (by omega)), fr.of (fun q hq => o q (by omega)) (fun j a b c => o1 j (by omega))⟩, o, o1⟩
    · unfold jR_name jR_name_22 jR_name_42
      simp only [sm_wr]
      rw [m47, if_pos rfl, m52, if_neg ne, bo_0, up_ida m47, m47, if_pos rfl, m52, up_at, nI_1, nI_pred]
    · have := hR i hi
      unfold wRow at this ⊢
      rw [rvC_o (by omega) (by omega), rvC_o (by omega) (by omega), rvC_o (by omega) (by omega), rvC_o (by omega) (by omega), rvC_o (by omega) (by omega), o 29 (by decide), o 30 (by decide), o 31 (by decide), o 32 (by decide)]
      exact this
    · by_cases e : b = nB
      · exact Or.inr ((hmem b).mpr (Or.inl e))
      · rcases k1 b (by omega) with q | q
        · exact Or.inl (hbo b e q)
        · exact Or.inr ((hmem b).mpr (Or.inr q))
    · rw [rvC_7]
      rcases (hmem b).mp hb with rfl | q
      · exact ⟨by omega, upd_at, by omega⟩
      · obtain ⟨q1, q2, q3⟩ := k2 b q
        exact ⟨by omega, by rw [upd_ne (by omega)]; exact q2, q3⟩
    · rw [List.cons_append, List.nodup_cons]
      exact ⟨fun q => by have := (k2 nB q).1; omega, k3⟩
    · rw [rvC_o (q := 30) (by omega) (by omega)]
      exact k5 i b hb
    · have := hE i hi
      unfold wEv at this ⊢
      rw [rvC_o (q := 25) (by omega) (by omega), rvC_o (q := 26) (by omega) (by omega), rvC_o (q := 27) (by omega) (by omega), o 40 (by decide), o 41 (by decide), o 42 (by decide), o 43 (by decide)]
      exact this
    · obtain ⟨e, v, b, tt, m, ta, tb, q1, q2, q3, q4⟩ := hB k hk
      refine ⟨e, v, b, tt, m, ta, tb, q1, q2, by omega, ?_⟩
      rw [rvC_o (q := 28) (by omega) (by omega), rvC_o (q := 29) (by omega) (by omega), rvC_o (q := 30) (by omega) (by omega), o 44 (by decide), o 45 (by decide), o 46 (by decide)]
      exact q4
  · have e4 : nB = 40 := by omega
    subst e4
    refine Or.inr ⟨Mm 1 52 - 1, sm_up Mc p 15 1, ?_, ⟨⟨tabC_o (fun q hq => up_ne (by omega)) t1, fun i hi => have hi' : i < nV := hi.elim id (fun q => by rw [q]; exact n4); ⟨_, by rw [up_ne (by omega)]; exact (hE i hi').1, (hE i hi').o0⟩⟩, ⟨t2, hLN⟩, up_at, ⟨nC, n1, by rw [up_as (by decide)]; exact c6⟩, ⟨40, Nat.le_refl _, by rw [up_as (by decide)]; exact c11⟩, fc.of (fun q a b c => up_ne (by omega))⟩, ?_, tabM_o (fun q q1 q2 => up_ne (by omega)) (up_as (by decide)) t3, t4, up_at, fr.of (fun q hq => up_ne (by omega)) (fun j a b c => up_as (by omega))⟩
    · unfold jC_reserve
      rw [c11, if_pos (show nI 40 = 40 from rfl), bo_1]
      rfl
    · unfold jR_name jR_name_17 jR_name_22 jR_name_42
      simp only [sm_wr]
      rw [m47, if_pos rfl, m52, if_pos (show nI 40 = 40 from rfl), bo_1, up_at, if_neg (show ¬ (1 : Int32) = 0 by decide), Int32.add_zero, up_ida rfl, up_as (by decide), m52]
/-- the tables grow -/
theorem wS_tb {KC KR : List Ty} (hp : 40 ≤ p) (hS : wS p nE B Bm L LM0 FR k0 Ex PB nC nB cur nV nD LC LR W A TE BD Mc Mm) (hT : tabC Mc' (LC ++ KC)) (hT' : tabM Mm' (LR ++ KR)) (ho : ∀ q, 8 < q → Mc' q = Mc q) (hm : ∀ q, 6 < q → Mm' q = Mm q) (h1 : ∀ j, j ≠ 1 → Mm' 1 j = Mm 1 j) (b1 : (LC ++ KC).length + cU (LC ++ KC) FR ≤ L.length + FR.length + ct4 (Mm 29) nC) (b2 : (LR ++ KR).length ≤ LM0.length + ct4 (Mm 29) nC + k0) (b3 : ∀ a b, tyF a b ∉ KC) (b4 : ∀ t, t ∈ KC → tyok t) : wS p nE B Bm L LM0 FR k0 Ex PB nC nB cur nV nD (LC ++ KC) (LR ++ KR) W A TE BD Mc' Mm' := by
  obtain ⟨⟨n1, n2, n3, n4, n5, n6⟩, ⟨t1, ⟨Kc, t2⟩, t3, ⟨Kr, t4⟩, t5, t6, t7, t8, t9, t10⟩, ⟨c6, c11, c12, c15, c5, c9⟩, ⟨m39, m52, m54, m47, m50, m53⟩, hR, ⟨⟨k1, k2, k3, k4, k5⟩, hcu⟩, hE, hB, fc, fr⟩ := hS
  have hbo : ∀ b, wBo p nC LC LR A Mc Mm b → wBo p nC (LC ++ KC) (LR ++ KR) A Mc' Mm' b := by
    intro b h
    unfold wBo at h ⊢
    rw [ho (p + 6) (by omega), ho (p + 7) (by omega), ho (p + 8) (by omega), ho (p + 9) (by omega), hm 33 (by decide), hm 34 (by decide), hm 35 (by decide)]
    exact ⟨h.1, fun k hk => ⟨(h.2 k hk).1.grow, (h.2 k hk).2.1.grow, (h.2 k hk).2.2⟩⟩
  refine ⟨⟨n1, n2, n3, n4, by rw [hm 29 (by decide)]; exact n5, n6⟩, ⟨hT, ⟨Kc ++ KC, by rw [t2, List.append_assoc]⟩, hT', ⟨Kr ++ KR, by rw [t4, List.append_assoc]⟩, by rw [hm 29 (by decide)]; exact b1, by rw [hm 29 (by decide)]; exact b2, fun a b q => ?_, fun t q => ?_, by rw [List.getElem?_append_left (List.getElem?_eq_some_iff.mp t9).1]; exact t9, by rw [List.getElem?_append_left (List.getElem?_eq_some_iff.mp t10).1]; exact t10⟩, ⟨by rw [ho p (by omega)]; exact c6, by rw [ho p (by omega)]; exact c11, by rw [ho p (by omega)]; exact c12, by rw [ho p (by omega)]; exact c15, by rw [ho 24 (by decide)]; exact c5, by rw [ho 24 (by decide)]; exact c9⟩, ⟨by rw [h1 39 (by decide)]; exact m39, by rw [h1 52 (by decide)]; exact m52, by rw [h1 54 (by decide)]; exact m54, by rw [h1 47 (by decide)]; exact m47, by rw [h1 50 (by decide)]; exact m50, by rw [h1 53 (by decide)]; exact m53⟩, fun i hi => ?_, ⟨⟨fun b hb => ?_, fun b hb => ?_, k3, k4, fun i b hb => ?_⟩, hbo cur hcu⟩, fun i hi => ?_, fun k hk => ?_, fc.of (fun q a b c => ho q a), fr.of (fun q hq => hm q (by omega)) (fun j a b c => h1 j a)⟩
  · rcases List.mem_append.mp q with q | q
    · exact t7 a b q
    · exact absurd q (b3 a b)
  · rcases List.mem_append.mp q with q | q
    · exact t8 t q
    · exact b4 t q
  · have := hR i hi
    unfold wRow at this ⊢
    rw [ho (p + 1) (by omega), ho (p + 2) (by omega), ho (p + 3) (by omega), ho (p + 4) (by omega), ho (p + 5) (by omega), hm 29 (by decide), hm 30 (by decide), hm 31 (by decide), hm 32 (by decide)]
    obtain ⟨q1, q2, q3, q4, q5, q6⟩ := this
    exact ⟨q1, q2, q3, q4, q5, fun z => ⟨(q6 z).1.grow, (q6 z).2.1.grow, (q6 z).2.2⟩⟩
  · rcases k1 b hb with q | q
    · exact Or.inl (hbo b q)
    · exact Or.inr q
  · rw [ho (p + 7) (by omega)]
    exact k2 b hb
  · rw [ho 30 (by decide)]
    exact k5 i b hb
  · obtain ⟨q1, q2, q3⟩ := hE i hi
    unfold wEv
    rw [ho 25 (by decide), ho 26 (by decide), ho 27 (by decide), hm 40 (by decide), hm 41 (by decide), hm 42 (by decide), hm 43 (by decide)]
    refine ⟨q1.grow, q2.grow, ?_⟩
    rcases q3 with q3 | ⟨j, u, z1, z2, z3, z4, z5, z6⟩
    · exact Or.inl q3
    · exact Or.inr ⟨j, u, z1, z2, z3, z4, z5.grow, z6⟩
  · have := hB k hk
    unfold wBd at this ⊢
    rw [ho 28 (by decide), ho 29 (by decide), ho 30 (by decide), hm 44 (by decide), hm 45 (by decide), hm 46 (by decide)]
    exact this
/-- both sides look a type up -/
theorem w_find {n : Nat} (hp : 40 ≤ p) (hS : wS p nE B Bm L LM0 FR k0 Ex PB nC nB cur nV nD LC LR W A TE BD Mc Mm) (hn : n < 5) (n2 : n ≠ 2) (hk : tyok (ty_mk n o1 o2 o3)) (h1 : ty_pr LC x o1) (h2 : ty_pr LC y o2) (h3 : ty_pr LC z o3) (h1' : ty_pr LR x' o1) (h2' : ty_pr LR y' o2) (h3' : ty_pr LR z' o3) (hsl : LC.length + cU LC FR + 1 ≤ L.length + FR.length + ct4 (Mm 29) nC ∨ ty_mk n o1 o2 o3 ∈ FR) (hsr : LR.length + 1 ≤ LM0.length + ct4 (Mm 29) nC + k0) (hcap : L.length + FR.length + 300 < 800 ∧ LM0.length + 300 + k0 < 3000) :
    ∃ (w w' : Int32) (KC KR : List Ty) (Mc' Mm' : sm_M), jT_find (nI n) x y z D Mc = some (w, D, Mc') ∧ jR_find (nI n) x' y' z' [] Mm = some (w', [], Mm') ∧ ty_pr (LC ++ KC) w (some (ty_mk n o1 o2 o3)) ∧ ty_pr (LR ++ KR) w' (some (ty_mk n o1 o2 o3)) ∧ wS p nE B Bm L LM0 FR k0 Ex PB nC nB cur nV nD (LC ++ KC) (LR ++ KR) W A TE BD Mc' Mm' ∧ (∀ q, 8 < q → Mc' q = Mc q) ∧ (∀ q, 6 < q → Mm' q = Mm q) ∧ (∀ j, j ≠ 1 → Mm' 1 j = Mm 1 j) ∧ (LC ++ KC).length ≤ LC.length + 1 := by
  obtain ⟨⟨m1, -⟩, ⟨t1, -, t3, -, t5, t6, -⟩, -⟩ := id hS
  have hct := ct4_le (o := Mm 29) nC
  have last : ∀ {l : List Ty} {t : Ty}, (l ++ [t])[l.length]? = some t := fun {l t} => by rw [List.getElem?_append_right (Nat.le_refl _), Nat.sub_self]; rfl
  obtain ⟨w', KR, Mm', e1, e2, e3, e4, e5, e6⟩ : ∃ (w' : Int32) (KR : List Ty) (Mm' : sm_M), jR_find (nI n) x' y' z' [] Mm = some (w', [], Mm') ∧ ty_pr (LR ++ KR) w' (some (ty_mk n o1 o2 o3)) ∧ tabM Mm' (LR ++ KR) ∧ (∀ q, 6 < q → Mm' q = Mm q) ∧ (∀ j, j ≠ 1 → Mm' 1 j = Mm 1 j) ∧ KR.length ≤ 1 := by
    rcases r_find (D := []) t3 hn h1' h2' h3' (by omega) with ⟨r, hr, hj⟩ | ⟨hno, M2, hj, hT, ho1, ho⟩
    · exact ⟨nI r, [], Mm, hj, by rw [List.append_nil]; exact Or.inr ⟨r, _, rfl, hr, rfl⟩, by rw [List.append_nil]; exact t3, fun _ _ => rfl, fun _ _ => rfl, Nat.zero_le _⟩
    · exact ⟨nI LR.length, [ty_mk n o1 o2 o3], M2, hj, Or.inr ⟨LR.length, _, rfl, last, rfl⟩, hT, ho, ho1, Nat.le_refl _⟩
  have b2 : (LR ++ KR).length ≤ LM0.length + ct4 (Mm 29) nC + k0 := by rw [List.length_append]; omega
  rcases j_find (D := D) t1 hn h1 h2 h3 with ⟨r, hr, hj⟩ | ⟨hno, hlt, M2, hj, hT, ho⟩ | ⟨hno, hlen, -⟩
  · have hS' := wS_tb (KC := []) (Mc' := Mc) hp hS (by rw [List.append_nil]; exact t1) e3 (fun _ _ => rfl) e4 e5 (by rw [List.append_nil]; exact t5) b2 (fun a b q => by cases q) (fun t q => by cases q)
    refine ⟨nI r, w', [], KR, Mc, Mm', hj, e1, by rw [List.append_nil]; exact Or.inr ⟨r, _, rfl, hr, rfl⟩, e2, hS', fun _ _ => rfl, e4, e5, by rw [List.append_nil]; omega⟩
  · have hsub : ∀ t, t ∈ LC → t ∈ LC ++ [ty_mk n o1 o2 o3] := fun t ht => List.mem_append_left _ ht
    have hmo := cU_mono hsub FR
    have b1 : (LC ++ [ty_mk n o1 o2 o3]).length + cU (LC ++ [ty_mk n o1 o2 o3]) FR ≤ L.length + FR.length + ct4 (Mm 29) nC := by
      rw [List.length_append]
      show LC.length + 1 + _ ≤ _
      rcases hsl with q | q
      · omega
      · have := cU_new hsub hno (List.mem_append_right _ (List.mem_singleton.mpr rfl)) FR q
        omega
    have hS' := wS_tb (KC := [ty_mk n o1 o2 o3]) hp hS hT e3 ho e4 e5 b1 b2 (fun a b q => n2 (ty_mk_inj (List.mem_singleton.mp q)).1.symm) (fun t q => by rw [List.mem_singleton.mp q]; exact hk)
    exact ⟨nI LC.length, w', [ty_mk n o1 o2 o3], KR, M2, Mm', hj, e1, Or.inr ⟨LC.length, _, rfl, last, rfl⟩, e2, hS', ho, e4, e5, by rw [List.length_append]; exact Nat.le_refl _⟩
  · omega
end
