/-! evaluation: parts, and how a frame is left -/
def vM (d e ph : Nat) (y : Int32) (M : sm_M) : Prop := M 1 20 = nI (d + 1) ∧ M 18 d = nI e ∧ M 19 d = nI ph ∧ M 22 d = y
/-- the expressions on both sides -/
def vH (nE : Nat) (L : List Ty) (B Bm : sm_M) : Prop := nE ≤ 40 ∧ (∀ i, i < nE → Bm 12 i = B 10 i ∧ Bm 13 i = B 11 i ∧ Bm 14 i = B 12 i ∧ Bm 15 i = B 13 i ∧ Bm 16 i = B 14 i) ∧ ∀ i, i < nE → exI L B i
section
variable {nE : Nat} {B Bm : sm_M} {L : List Ty} {nV nF s : Nat} {TV : Nat → Ty} {TF : Nat → List Ty} {Mc Mm Mc' Mm' M N M1 Mb : sm_M} {D : sm_D} {x y : Int32} {env : List Ty} {d e k ph n c1 c2 m : Nat} {t t' : Ty}
theorem vV.num {i : Nat} (h : vV nE B L nF TV TF Mc Mm i) (ht : TV i = tyN) : Mc 19 i = 0 ∧ Mm 25 i = Mc 20 i := by
  rcases h with ⟨h1, h2, -⟩ | ⟨a, b, -, -, -, -, -, -, -, h⟩ | ⟨e, env, m, a, b, -, -, -, -, -, -, h, -⟩
  · exact ⟨h1, h2⟩
  · exact absurd (ty_mk_inj (ht.symm.trans h)).1 (by decide)
  · exact absurd (ty_mk_inj (ht.symm.trans h)).1 (by decide)
theorem vV.pair {i : Nat} {ta tb : Ty} (h : vV nE B L nF TV TF Mc Mm i) (ht : TV i = tyP ta tb) : ∃ a b, a < i ∧ b < i ∧ Mc 19 i = 1 ∧ Mc 20 i = nI a ∧ Mm 25 i = nI a ∧ Mc 21 i = nI b ∧ Mm 26 i = nI b ∧ TV a = ta ∧ TV b = tb := by
  rcases h with ⟨h1, h2, h⟩ | ⟨a, b, q1, q2, q3, q4, q5, q6, q7, h⟩ | ⟨e, env, m, a, b, -, -, -, -, -, -, h, -⟩
  · exact absurd (ty_mk_inj (ht.symm.trans h)).1 (by decide)
  · obtain ⟨e1, e2⟩ := tyP_inj (h.symm.trans ht)
    exact ⟨a, b, q1, q2, q3, q4, q5, q6, q7, e1, e2⟩
  · exact absurd (ty_mk_inj (ht.symm.trans h)).1 (by decide)
theorem vV.fn {i : Nat} {ta tb : Ty} (h : vV nE B L nF TV TF Mc Mm i) (ht : TV i = tyF ta tb) : ∃ e env m, e < nE ∧ Mc 19 i = 2 ∧ Mc 20 i = nI e ∧ Mm 25 i = nI e ∧ vE nF TF (Mc 21 i) (Mm 26 i) env ∧ B 10 e = 6 ∧ pT (B 10) (B 11) (B 12) (B 13) (B 14) L m (ta :: TV i :: env) (xN (B 12) e) tb := by
  rcases h with ⟨h1, h2, h⟩ | ⟨a, b, -, -, -, -, -, -, -, h⟩ | ⟨e, env, m, a, b, q1, q2, q3, q4, q5, q6, h, q7⟩
  · exact absurd (ty_mk_inj (ht.symm.trans h)).1 (by decide)
  · exact absurd (ty_mk_inj (ht.symm.trans h)).1 (by decide)
  · obtain ⟨rfl, rfl⟩ := tyF_inj (h.symm.trans ht)
    exact ⟨e, env, m, q1, q2, q3, q4, q5, q6, q7⟩
theorem vS.o (hS : vS nE B Bm L nV nF s TV TF Mc Mm) (ho : ∀ q, q ≠ 1 → q ≠ 18 → q ≠ 19 → q ≠ 20 → q ≠ 22 → Mm' q = Mm q) (h1 : ∀ j, j ≠ 20 → j ≠ 22 → Mm' 1 j = Mm 1 j) : vS nE B Bm L nV nF s TV TF Mc Mm' := by
  obtain ⟨a1, a2, ⟨m1, m2, m3⟩, hV, hF, o1, o2, o3⟩ := hS
  refine ⟨a1, a2, ⟨by rw [h1 29 (by decide) (by decide)]; exact m1, by rw [h1 30 (by decide) (by decide)]; exact m2, by rw [h1 31 (by decide) (by decide)]; exact m3⟩, fun i hi => (hV i hi).o rfl rfl rfl (by rw [ho 25 (by decide) (by decide) (by decide) (by decide) (by decide)]) (by rw [ho 26 (by decide) (by decide) (by decide) (by decide) (by decide)]) (fun _ _ => rfl) (Nat.le_refl _) (fun _ _ => rfl), fun f hf => (hF f hf).o (Nat.le_refl _) rfl rfl (fun _ _ => rfl) (fun j _ => ⟨by rw [ho 27 (by decide) (by decide) (by decide) (by decide) (by decide)], by rw [ho 28 (by decide) (by decide) (by decide) (by decide) (by decide)]⟩) (fun _ _ => rfl) (fun _ _ => rfl), o1, fun q hq => ?_, fun j a b c d e => by rw [h1 j a b]; exact o3 j a b c d e⟩
  rw [ho q (by omega) (by omega) (by omega) (by omega) (by omega)]
  exact o2 q hq
theorem vS.row (hS : vS nE B Bm L nV nF s TV TF Mc Mm) {q : Nat} (h1 : 2 ≤ q) (h2 : q ≤ 17) : Mm q = Bm q := hS.2.2.2.2.2.2.1 q (by omega)
theorem vS.rowC (hS : vS nE B Bm L nV nF s TV TF Mc Mm) {q : Nat} (h1 : q < 18) : Mc q = B q := hS.2.2.2.2.2.1 q (by omega)
theorem vB.trans {A C : sm_M} (h : vB d M N) (h' : vB d N C) : vB d M C := fun j hj => ⟨(h j hj).1.trans (h' j hj).1, (h j hj).2.1.trans (h' j hj).2.1, (h j hj).2.2.1.trans (h' j hj).2.2.1, (h j hj).2.2.2.trans (h' j hj).2.2.2⟩
theorem vB.less {d' : Nat} (h : vB d M N) (hd : d' ≤ d) : vB d' M N := fun j hj => h j (by omega)
theorem vM.pos (h : vM d e ph y M) (hd : d < 60) : (0 : Int32) < M 1 20 := by
  rw [h.1]
  exact nI_lt (a := 0) (by omega) (by omega)
/-- a frame is left with a value that was there -/
theorem v_lv {v : Nat} (hS : vS nE B Bm L nV nF s TV TF Mc N) (hv : v < nV) (ht : TV v = t) (h20 : N 1 20 = nI d) (hb : vB d N Mb) (h1 : nV + c1 ≤ s) (h2 : 3 * nF + c2 ≤ s) (h0 : (0 : Int32) < M 1 20) (hn : jR_evaluateNext [] M = some (1, [], sm_up N 1 22 (nI v))) : vQ nE B Bm L D c1 c2 nV nF TV TF t d Mb (some (nI v, D, Mc)) (jR_evaluate_60 1 [] M) :=
  Or.inl ⟨v, nV, nF, s, TV, TF, Mc, sm_up N 1 22 (nI v), rfl, v_loop h0 hn, hS.o (fun q a _ _ _ _ => up_ne a) (fun j _ b => up_as b), ⟨hv, ht, up_at, by rw [up_as (by decide)]; exact h20⟩, fun j hj => by rw [up_ne (by decide), up_ne (by decide), up_ne (by decide), up_ne (by decide)]; exact hb j hj, ⟨Nat.le_refl _, Nat.le_refl _, h1, h2⟩, fun _ _ => rfl, fun _ _ => rfl⟩
theorem v_lvN {k a b k' a' b' : Int32} (hS : vS nE B Bm L nV nF s TV TF Mc N) (h20 : N 1 20 = nI d) (hb : vB d N Mb) (h1 : nV + 1 + c1 ≤ s) (h2 : 3 * nF + c2 ≤ s) (hnew : ∀ (Mc' Mm' : sm_M) (TV' : Nat → Ty), Mc' 19 nV = k → Mc' 20 nV = a → Mc' 21 nV = b → Mm' 25 nV = a' → Mm' 26 nV = b' → TV' nV = t → (∀ i, i < nV → TV' i = TV i) → vV nE B L nF TV' TF Mc' Mm' nV) (h0 : (0 : Int32) < M 1 20) (hn : jR_evaluateNext [] M = sm_bi (jR_newValue k' a' b' [] N) (fun x E M => sm_dq E [] (some (1, [], sm_up M 1 22 x)))) : vQ nE B Bm L D c1 c2 nV nF TV TF t d Mb (sm_bi (jV_value k a b D Mc) (fun x E M' => sm_dq E D (some (x, D, M')))) (jR_evaluate_60 1 [] M) := by
  obtain ⟨Mc2, Mm2, e1, e2, e3, e4, e5⟩ := v_new (D := D) (k' := k') hS (by omega) hnew
  rw [e2, bi_some, dq_self] at hn
  rw [e1, bi_some, dq_self]
  have hb2 : vB d Mm2 Mb := fun j hj => by rw [e4 18 (by decide) (by decide), e4 19 (by decide) (by decide), e4 20 (by decide) (by decide), e4 22 (by decide) (by decide)]; exact hb j hj
  exact (v_lv (D := D) e3 (Nat.lt_succ_self _) (if_pos rfl) ((e5 20 (by decide)).trans h20) hb2 (c1 := c1) (c2 := c2) (by omega) h2 h0 hn).low (Nat.le_refl _) (Nat.le_refl _) (by omega) (Nat.le_refl _) (fun i hi => if_neg (by omega)) (fun _ _ => rfl)
theorem vQ.wrap {jc jr : Option sm_S} (h : vQ nE B Bm L D c1 c2 nV nF TV TF t d Mb jc jr) : vQ nE B Bm L D c1 c2 nV nF TV TF t d Mb (sm_bi jc (fun x E M' => sm_dq E D (some (x, D, M')))) jr := by
  rcases h with ⟨v, nV', nF', s', TV', TF', Mc', Mm', rfl, e2, a1⟩ | ⟨z, s', Mc', Mm', rfl, b1⟩
  · exact Or.inl ⟨v, nV', nF', s', TV', TF', Mc', Mm', by rw [bi_some, dq_self], e2, a1⟩
  · exact Or.inr ⟨z, s', Mc', Mm', by rw [bi_some, dq_self], b1⟩
/-- a part of e -/
theorem v_pt (hH : vH nE L B Bm) (he : e < nE) {f : Nat → Int32} {h : Nat} (hp : exP B e h (f e)) : f e = nI (xN f e) ∧ xN f e < nE := by
  obtain ⟨e', g, h1, h2, -⟩ := hp
  have hl := hH.1
  have hx : xN f e = e' := by unfold xN; rw [h2]; exact nI_clamp (by omega)
  exact ⟨by rw [hx]; exact h2, by omega⟩
/-- the part at N is evaluated, from the frame at d -/
theorem v_part {e' : Nat} (hP : vP nE B Bm L D n) (hn : d + 1 + n = 61) (hd : d < 60) (hS : vS nE B Bm L nV nF s TV TF Mc N) (hM : (0 : Int32) < M 1 20) (h20 : N 1 20 = nI (d + 1)) (he : e' < nE) (hT : pT (B 10) (B 11) (B 12) (B 13) (B 14) L m env e' t) (hE : vE nF TF x y env) (h1 : nV + c1 ≤ s) (h2 : 3 * nF + c2 ≤ s) (hj : jR_evaluateNext [] M = sm_bi (jR_step (nI e') y [] N) (fun x E M => sm_dq E [] (sm_bo x (some (x, [], M))))) : vQ nE B Bm L D c1 (c2 + 1) nV nF TV TF t (d + 1) N (jV_find n (nI e') x (nI (d + 1 + 1)) D Mc) (jR_evaluate_60 1 [] M) := by
  rw [r_stepS h20 hS.2.2.1.1 (by omega) hS.1.1 hM hj]
  exact hP (d + 1) e' env x y t m c1 c2 nV nF s TV TF Mc N (by omega) (by omega) hS he hT hE h20 h1 h2
def vN1 (M : sm_M) (d : Nat) : sm_M := sm_up (sm_up M 19 d (nI 2)) 20 d (M 1 22)
theorem vM.next {ph' : Nat} (hM : vM d e ph y M) (h20 : N 1 20 = nI (d + 1)) (hb : vB (d + 1) N M1) (h18 : M1 18 d = M 18 d) (h19 : M1 19 d = nI ph') (h22 : M1 22 d = M 22 d) : vM d e ph' y N := by
  obtain ⟨q1, q2, q3, q4⟩ := hb d (by omega)
  exact ⟨h20, (q1.trans h18).trans hM.2.1, q2.trans h19, (q4.trans h22).trans hM.2.2.2⟩
theorem v_1st (hH : vH nE L B Bm) (hP : vP nE B Bm L D n) (hn : d + 1 + n = 61) (hd : d < 60) (hS : vS nE B Bm L nV nF s TV TF Mc Mm) (hM : vM d e 0 y Mm) (he : e < nE) (hk : B 10 e = nI k) (k10 : k ≤ 10) (k6 : k ≠ 6) (hp : 0 < tPn k) {h : Nat} (px : exP B e h (B 12 e)) (hT : pT (B 10) (B 11) (B 12) (B 13) (B 14) L m env (xN (B 12) e) t) (hE : vE nF TF x y env) (h1 : nV + c1 ≤ s) (h2 : 3 * nF + c2 ≤ s) : vQ nE B Bm L D c1 (c2 + 1) nV nF TV TF t (d + 1) (sm_up Mm 19 d (nI 1)) (jV_find n (B 12 e) x (nI (d + 1 + 1)) D Mc) (jR_evaluate_60 1 [] Mm) := by
  obtain ⟨p1, p2⟩ := v_pt hH he px
  have hl := hH.1
  obtain ⟨q1, q2, q3, q4, q5⟩ := hH.2.1 e he
  have e12 : Mm 12 e = nI k := by rw [hS.row (by decide) (by decide), q1]; exact hk
  have hj := v_next hd hM.1 hM.2.1 (by omega) hM.2.2.1 e12
  have hS' : vS nE B Bm L nV nF s TV TF Mc (sm_up Mm 19 d (nI 1)) := hS.o (fun q _ _ a _ _ => up_ne a) (fun j _ _ => by rw [up_ne (by decide)])
  rw [show (0 : Nat) + 1 = 1 from rfl, v_pn (by omega) k10 k6 (fun _ => rfl) (by decide) hp, bi_some, dq_self, if_neg (show ¬ nI 0 = 1 by decide), if_pos (show (0 : Nat) = 0 from rfl), hS'.row (show 2 ≤ 14 by decide) (by decide), q3, p1, v_72 (by omega), hM.2.2.2] at hj
  rw [p1]
  exact v_part hP hn hd hS' (hM.pos hd) (by rw [up_ne (by decide)]; exact hM.1) p2 hT hE h1 h2 hj
theorem v_2nd (hH : vH nE L B Bm) (hP : vP nE B Bm L D n) (hn : d + 1 + n = 61) (hd : d < 60) (hS : vS nE B Bm L nV nF s TV TF Mc Mm) (hM : vM d e 1 y Mm) (he : e < nE) (hk : B 10 e = nI k) (k10 : k ≤ 10) (k6 : k ≠ 6) (k5 : k ≠ 5) (hp : 1 < tPn k) {h : Nat} (py : exP B e h (B 13 e)) (hT : pT (B 10) (B 11) (B 12) (B 13) (B 14) L m env (xN (B 13) e) t) (hE : vE nF TF x y env) (h1 : nV + c1 ≤ s) (h2 : 3 * nF + c2 ≤ s) : vQ nE B Bm L D c1 (c2 + 1) nV nF TV TF t (d + 1) (vN1 Mm d) (jV_find n (B 13 e) x (nI (d + 1 + 1)) D Mc) (jR_evaluate_60 1 [] Mm) := by
  obtain ⟨p1, p2⟩ := v_pt hH he py
  have hl := hH.1
  obtain ⟨q1, q2, q3, q4, q5⟩ := hH.2.1 e he
  have e12 : Mm 12 e = nI k := by rw [hS.row (by decide) (by decide), q1]; exact hk
  have hj := v_next hd hM.1 hM.2.1 (by omega) hM.2.2.1 e12
  have hS1 : vS nE B Bm L nV nF s TV TF Mc (sm_up Mm 19 d (nI 2)) := hS.o (fun q _ _ a _ _ => up_ne a) (fun j _ _ => by rw [up_ne (by decide)])
  have hS' : vS nE B Bm L nV nF s TV TF Mc (vN1 Mm d) := hS1.o (fun q _ _ _ a _ => up_ne a) (fun j _ _ => by unfold vN1; rw [up_ne (by decide)])
  rw [show (1 : Nat) + 1 = 2 from rfl, v_pn (by omega) k10 k6 (fun q => absurd q k5) (by decide) hp, bi_some, dq_self, if_pos (show nI 1 = 1 from rfl), if_neg (show ¬ (1 : Nat) = 0 by decide), hS1.row (show 2 ≤ 15 by decide) (by decide), q4, p1, v_72 (by omega), hM.2.2.2, up_ne (show (1 : Nat) ≠ 19 by decide)] at hj
  rw [p1]
  exact v_part hP hn hd hS' (hM.pos hd) (by unfold vN1; rw [up_ne (by decide), up_ne (by decide)]; exact hM.1) p2 hT hE h1 h2 hj
end
