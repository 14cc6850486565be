/-! evaluation: a new value, a new frame -/
section
variable {nE : Nat} {B Bm : sm_M} {L : List Ty} {nV nF s : Nat} {TV : Nat → Ty} {TF : Nat → List Ty} {Mc Mm Mc' Mm' : sm_M} {D : sm_D} {x y : Int32} {env : List Ty}
theorem vV.o {nF' i : Nat} {TV' : Nat → Ty} {TF' : Nat → List Ty} (h : vV nE B L nF TV TF Mc Mm i) (h1 : Mc' 19 i = Mc 19 i) (h2 : Mc' 20 i = Mc 20 i) (h3 : Mc' 21 i = Mc 21 i) (h4 : Mm' 25 i = Mm 25 i) (h5 : Mm' 26 i = Mm 26 i) (hT : ∀ j, j ≤ i → TV' j = TV j) (hn : nF ≤ nF') (hF : ∀ f, f < nF → TF' f = TF f) : vV nE B L nF' TV' TF' Mc' Mm' i := by
  unfold vV
  rw [h1, h2, h3, h4, h5, hT i (Nat.le_refl _)]
  rcases h with h | ⟨a, b, ha, hb, c1, c2, c3, c4, c5, c6⟩ | ⟨e, env, m, a, b, c1, c2, c3, c4, c5, c6, c7, c8⟩
  · exact Or.inl h
  · exact Or.inr (Or.inl ⟨a, b, ha, hb, c1, c2, c3, c4, c5, by rw [hT a (by omega), hT b (by omega)]; exact c6⟩)
  · exact Or.inr (Or.inr ⟨e, env, m, a, b, c1, c2, c3, c4, c5.mono hn hF, c6, c7, c8⟩)
theorem vF.o {nV' f : Nat} {TV' : Nat → Ty} {TF' : Nat → List Ty} (h : vF nV TV TF Mc Mm f) (hn : nV ≤ nV') (h22 : Mc' 22 f = Mc 22 f) (h23 : Mc' 23 f = Mc 23 f) (h21 : ∀ a, a < nV → Mc' 21 a = Mc 21 a) (m27 : ∀ j, j ≤ 2 * f + 1 → Mm' 27 j = Mm 27 j ∧ Mm' 28 j = Mm 28 j) (hT : ∀ j, j < nV → TV' j = TV j) (hF : ∀ g, g ≤ f → TF' g = TF g) : vF nV' TV' TF' Mc' Mm' f := by
  obtain ⟨a, b, env, c1, c2, c3, c4, c5, c6, c7, c8, c9⟩ := h
  refine ⟨a, b, env, by omega, by omega, h22.trans c3, h23.trans c4, (m27 _ (by omega)).1.trans c5, (m27 _ (by omega)).1.trans c6, (m27 _ (by omega)).2.trans c7, ?_, by rw [hF f (Nat.le_refl _), hT a c1, hT b c2]; exact c9⟩
  rw [h21 a c1, (m27 (2 * f) (by omega)).2]
  exact c8.mono (Nat.le_refl _) (fun g hg => hF g (by omega))
theorem v_new (hS : vS nE B Bm L nV nF s TV TF Mc Mm) (h1 : nV + 1 ≤ s) {k a b k' a' b' : Int32} {t : Ty} (hnew : ∀ (Mc' Mm' : sm_M) (TV' : Nat → Ty), Mc' 19 nV = k → Mc' 20 nV = a → Mc' 21 nV = b → Mm' 25 nV = a' → Mm' 26 nV = b' → TV' nV = t → (∀ i, i < nV → TV' i = TV i) → vV nE B L nF TV' TF Mc' Mm' nV) : ∃ (Mc' Mm' : sm_M), jV_value k a b D Mc = some (nI nV, D, Mc') ∧ jR_newValue k' a' b' [] Mm = some (nI nV, [], Mm') ∧ vS nE B Bm L (nV + 1) nF s (fun i => if i = nV then t else TV i) TF Mc' Mm' ∧ (∀ q, 1 < q → q < 24 → Mm' q = Mm q) ∧ ∀ j, j ≠ 30 → Mm' 1 j = Mm 1 j := by
  obtain ⟨⟨s1, s2, s3⟩, ⟨c1, c2, c3, c4⟩, ⟨m1, m2, m3⟩, hV, hF, o1, o2, o3⟩ := hS
  have k5 : ∀ {ρ : Type} {q : Option ρ}, sm_ck (nI nV) 500 q = q := ck_nI (by omega) (by decide)
  have k6 : ∀ {ρ : Type} {q : Option ρ}, sm_ck (nI nV) 600 q = q := ck_nI (by omega) (by decide)
  have cv : (nI nV).toNatClampNeg = nV := nI_clamp (by omega)
  have n5 : ¬ nI nV = (500 : Int32) := fun q => by
    have := nI_inj (by omega) (by decide) (show nI nV = nI 500 from q)
    omega
  have u18 : ∀ {N : sm_M} {q j : Nat} {y : Int32}, 18 ≠ q → sm_up N q j y 18 = N 18 := fun h => up_ne h
  have u1 : ∀ {N : sm_M} {q j : Nat} {y : Int32}, 1 ≠ q → sm_up N q j y 1 = N 1 := fun h => up_ne h
  have oq : ∀ q, q ≠ 18 → q ≠ 19 → q ≠ 20 → q ≠ 21 → sm_up (sm_up (sm_up (sm_up Mc 19 nV k) 20 nV a) 21 nV b) 18 4 (nI (nV + 1)) q = Mc q := fun q a b c d => by rw [up_ne a, up_ne d, up_ne c, up_ne b]
  have mq : ∀ q, q ≠ 1 → q ≠ 24 → q ≠ 25 → q ≠ 26 → sm_up (sm_up (sm_up (sm_up Mm 24 nV k') 25 nV a') 26 nV b') 1 30 (nI (nV + 1)) q = Mm q := fun q a b c d => by rw [up_ne a, up_ne d, up_ne c, up_ne b]
  have m1q : ∀ j, j ≠ 30 → sm_up (sm_up (sm_up (sm_up Mm 24 nV k') 25 nV a') 26 nV b') 1 30 (nI (nV + 1)) 1 j = Mm 1 j := fun j h => by rw [up_as h, up_ne (by decide), up_ne (by decide), up_ne (by decide)]
  have c18 : ∀ j, j ≠ 4 → sm_up (sm_up (sm_up (sm_up Mc 19 nV k) 20 nV a) 21 nV b) 18 4 (nI (nV + 1)) 18 j = Mc 18 j := fun j h => by rw [up_as h, up_ne (by decide), up_ne (by decide), up_ne (by decide)]
  have tv : ∀ j, j < nV → (fun i => if i = nV then t else TV i) j = TV j := fun j hj => if_neg (by omega)
  have a19 : sm_up (sm_up (sm_up (sm_up Mc 19 nV k) 20 nV a) 21 nV b) 18 4 (nI (nV + 1)) 19 = upd (Mc 19) nV k := by rw [up_ne (by decide), up_ne (by decide), up_ne (by decide), sm_up_same]
  have a20 : sm_up (sm_up (sm_up (sm_up Mc 19 nV k) 20 nV a) 21 nV b) 18 4 (nI (nV + 1)) 20 = upd (Mc 20) nV a := by rw [up_ne (by decide), up_ne (by decide), sm_up_same, up_ne (by decide)]
  have a21 : sm_up (sm_up (sm_up (sm_up Mc 19 nV k) 20 nV a) 21 nV b) 18 4 (nI (nV + 1)) 21 = upd (Mc 21) nV b := by rw [up_ne (by decide), sm_up_same, up_ne (by decide), up_ne (by decide)]
  have a25 : sm_up (sm_up (sm_up (sm_up Mm 24 nV k') 25 nV a') 26 nV b') 1 30 (nI (nV + 1)) 25 = upd (Mm 25) nV a' := by rw [up_ne (by decide), up_ne (by decide), sm_up_same, up_ne (by decide)]
  have a26 : sm_up (sm_up (sm_up (sm_up Mm 24 nV k') 25 nV a') 26 nV b') 1 30 (nI (nV + 1)) 26 = upd (Mm 26) nV b' := by rw [up_ne (by decide), sm_up_same, up_ne (by decide), up_ne (by decide)]
  refine ⟨sm_up (sm_up (sm_up (sm_up Mc 19 nV k) 20 nV a) 21 nV b) 18 4 (nI (nV + 1)), sm_up (sm_up (sm_up (sm_up Mm 24 nV k') 25 nV a') 26 nV b') 1 30 (nI (nV + 1)), ?_, ?_, ⟨⟨s1, h1, s3⟩, ⟨up_at, by rw [c18 7 (by decide)]; exact c2, by rw [c18 8 (by decide)]; exact c3, by rw [c18 9 (by decide)]; exact c4⟩, ⟨by rw [m1q 29 (by decide)]; exact m1, up_at, by rw [m1q 31 (by decide)]; exact m3⟩, fun i hi => ?_, fun f hf => ?_, fun q hq => ?_, fun q hq => ?_, fun j h20 h22 h29 h30 h31 => ?_⟩, fun q q1 q2 => mq q (by omega) (by omega) (by omega) (by omega), m1q⟩
  · unfold jV_value
    simp only [sm_wr, u18 (show (18 : Nat) ≠ 19 by decide), u18 (show (18 : Nat) ≠ 20 by decide), u18 (show (18 : Nat) ≠ 21 by decide), c1, k5, cv, nI_1, up_at, nI_pred]
    rw [if_neg n5]
  · unfold jR_newValue
    simp only [sm_wr, u1 (show (1 : Nat) ≠ 24 by decide), u1 (show (1 : Nat) ≠ 25 by decide), u1 (show (1 : Nat) ≠ 26 by decide), m2, k6, cv, nI_1, up_at, nI_pred]
  · by_cases g : i = nV
    · subst g
      exact hnew _ _ _ (by rw [a19, upd_at]) (by rw [a20, upd_at]) (by rw [a21, upd_at]) (by rw [a25, upd_at]) (by rw [a26, upd_at]) (if_pos rfl) tv
    · exact (hV i (by omega)).o (by rw [a19, upd_ne g]) (by rw [a20, upd_ne g]) (by rw [a21, upd_ne g]) (by rw [a25, upd_ne g]) (by rw [a26, upd_ne g]) (fun j hj => tv j (by omega)) (Nat.le_refl _) (fun _ _ => rfl)
  · exact (hF f hf).o (by omega) (by rw [oq 22 (by decide) (by decide) (by decide) (by decide)]) (by rw [oq 23 (by decide) (by decide) (by decide) (by decide)]) (fun a ha => by rw [a21, upd_ne (by omega)]) (fun j _ => ⟨by rw [mq 27 (by decide) (by decide) (by decide) (by decide)], by rw [mq 28 (by decide) (by decide) (by decide) (by decide)]⟩) tv (fun _ _ => rfl)
  · rw [oq q (by omega) (by omega) (by omega) (by omega)]; exact o1 q hq
  · rw [mq q (by omega) (by omega) (by omega) (by omega)]; exact o2 q hq
  · rw [m1q j h30]; exact o3 j h20 h22 h29 h30 h31
theorem v_bind (hS : vS nE B Bm L nV nF s TV TF Mc Mm) (h3 : 3 * (nF + 1) ≤ s) {a b : Nat} (ha : a < nV) (hb : b < nV) (hE : vE nF TF (Mc 21 a) (Mm 26 a) env) : ∃ (Mm1 Mm2 : sm_M), jR_bind (nI a) (Mm 26 a) [] Mm = some (nI (2 * nF), [], Mm1) ∧ jR_bind (nI b) (nI (2 * nF)) [] Mm1 = some (nI (2 * nF + 1), [], Mm2) ∧ vS nE B Bm L nV (nF + 1) s TV (fun f => if f = nF then TV b :: TV a :: env else TF f) (sm_up (sm_up (sm_up Mc 18 7 (nI (nF + 1))) 22 nF (nI a)) 23 nF (nI b)) Mm2 ∧ (∀ q, 1 < q → q < 27 → Mm2 q = Mm q) ∧ ∀ j, j ≠ 31 → Mm2 1 j = Mm 1 j := by
  obtain ⟨⟨s1, s2, s3⟩, ⟨c1, c2, c3, c4⟩, ⟨m1, m2, m3⟩, hV, hF, o1, o2, o3⟩ := hS
  have k0 : ∀ {ρ : Type} {q : Option ρ}, sm_ck (nI (2 * nF)) 1200 q = q := ck_nI (by omega) (by decide)
  have e0 : (nI (2 * nF)).toNatClampNeg = 2 * nF := nI_clamp (by omega)
  have k1 : ∀ {ρ : Type} {q : Option ρ}, sm_ck (nI (2 * nF + 1)) 1200 q = q := ck_nI (by omega) (by decide)
  have e1 : (nI (2 * nF + 1)).toNatClampNeg = 2 * nF + 1 := nI_clamp (by omega)
  have u1 : ∀ {N : sm_M} {q j : Nat} {y : Int32}, 1 ≠ q → sm_up N q j y 1 = N 1 := fun h => up_ne h
  have b1 : ∀ (x y : Int32) (N : sm_M), N 1 31 = nI (2 * nF) → jR_bind x y [] N = some (nI (2 * nF), [], sm_up (sm_up (sm_up N 27 (2 * nF) x) 28 (2 * nF) y) 1 31 (nI (2 * nF + 1))) := by
    intro x y N hN
    unfold jR_bind
    simp only [sm_wr, u1 (show (1 : Nat) ≠ 27 by decide), u1 (show (1 : Nat) ≠ 28 by decide), hN, k0, e0, nI_1, up_at, nI_pred]
  have b2 : ∀ (x y : Int32) (N : sm_M), N 1 31 = nI (2 * nF + 1) → jR_bind x y [] N = some (nI (2 * nF + 1), [], sm_up (sm_up (sm_up N 27 (2 * nF + 1) x) 28 (2 * nF + 1) y) 1 31 (nI (2 * nF + 1 + 1))) := by
    intro x y N hN
    unfold jR_bind
    simp only [sm_wr, u1 (show (1 : Nat) ≠ 27 by decide), u1 (show (1 : Nat) ≠ 28 by decide), hN, k1, e1, nI_1, up_at, nI_pred]
  have hB2 := b2 (nI b) (nI (2 * nF)) (sm_up (sm_up (sm_up Mm 27 (2 * nF) (nI a)) 28 (2 * nF) (Mm 26 a)) 1 31 (nI (2 * nF + 1))) up_at
  have mq : ∀ q, q ≠ 1 → q ≠ 27 → q ≠ 28 → sm_up (sm_up (sm_up (sm_up (sm_up (sm_up Mm 27 (2 * nF) (nI a)) 28 (2 * nF) (Mm 26 a)) 1 31 (nI (2 * nF + 1))) 27 (2 * nF + 1) (nI b)) 28 (2 * nF + 1) (nI (2 * nF))) 1 31 (nI (2 * nF + 1 + 1)) q = Mm q := fun q a b c => by rw [up_ne a, up_ne c, up_ne b, up_ne a, up_ne c, up_ne b]
  have m1q : ∀ j, j ≠ 31 → sm_up (sm_up (sm_up (sm_up (sm_up (sm_up Mm 27 (2 * nF) (nI a)) 28 (2 * nF) (Mm 26 a)) 1 31 (nI (2 * nF + 1))) 27 (2 * nF + 1) (nI b)) 28 (2 * nF + 1) (nI (2 * nF))) 1 31 (nI (2 * nF + 1 + 1)) 1 j = Mm 1 j := fun j h => by rw [up_as h, up_ne (by decide), up_ne (by decide), up_as h, up_ne (by decide), up_ne (by decide)]
  have a27 : sm_up (sm_up (sm_up (sm_up (sm_up (sm_up Mm 27 (2 * nF) (nI a)) 28 (2 * nF) (Mm 26 a)) 1 31 (nI (2 * nF + 1))) 27 (2 * nF + 1) (nI b)) 28 (2 * nF + 1) (nI (2 * nF))) 1 31 (nI (2 * nF + 1 + 1)) 27 = upd (upd (Mm 27) (2 * nF) (nI a)) (2 * nF + 1) (nI b) := by rw [up_ne (by decide), up_ne (by decide), sm_up_same, up_ne (by decide), up_ne (by decide), sm_up_same]
  have a28 : sm_up (sm_up (sm_up (sm_up (sm_up (sm_up Mm 27 (2 * nF) (nI a)) 28 (2 * nF) (Mm 26 a)) 1 31 (nI (2 * nF + 1))) 27 (2 * nF + 1) (nI b)) 28 (2 * nF + 1) (nI (2 * nF))) 1 31 (nI (2 * nF + 1 + 1)) 28 = upd (upd (Mm 28) (2 * nF) (Mm 26 a)) (2 * nF + 1) (nI (2 * nF)) := by rw [up_ne (by decide), sm_up_same, up_ne (by decide), up_ne (by decide), sm_up_same, up_ne (by decide)]
  have oq : ∀ q, q ≠ 18 → q ≠ 22 → q ≠ 23 → sm_up (sm_up (sm_up Mc 18 7 (nI (nF + 1))) 22 nF (nI a)) 23 nF (nI b) q = Mc q := fun q a b c => by rw [up_ne c, up_ne b, up_ne a]
  have c18 : ∀ j, j ≠ 7 → sm_up (sm_up (sm_up Mc 18 7 (nI (nF + 1))) 22 nF (nI a)) 23 nF (nI b) 18 j = Mc 18 j := fun j h => by rw [up_ne (by decide), up_ne (by decide), up_as h]
  have a22 : sm_up (sm_up (sm_up Mc 18 7 (nI (nF + 1))) 22 nF (nI a)) 23 nF (nI b) 22 = upd (Mc 22) nF (nI a) := by rw [up_ne (by decide), sm_up_same, up_ne (by decide)]
  have a23 : sm_up (sm_up (sm_up Mc 18 7 (nI (nF + 1))) 22 nF (nI a)) 23 nF (nI b) 23 = upd (Mc 23) nF (nI b) := by rw [sm_up_same, up_ne (by decide), up_ne (by decide)]
  have tf : ∀ g, g < nF → (fun f => if f = nF then TV b :: TV a :: env else TF f) g = TF g := fun g hg => if_neg (by omega)
  refine ⟨_, _, b1 (nI a) (Mm 26 a) Mm m3, hB2, ⟨⟨s1, s2, h3⟩, ⟨by rw [c18 4 (by decide)]; exact c1, by rw [up_ne (by decide), up_ne (by decide), up_at], by rw [c18 8 (by decide)]; exact c3, by rw [c18 9 (by decide)]; exact c4⟩, ⟨by rw [m1q 29 (by decide)]; exact m1, by rw [m1q 30 (by decide)]; exact m2, up_at⟩, fun i hi => ?_, fun f hf => ?_, fun q hq => ?_, fun q hq => ?_, fun j h20 h22 h29 h30 h31 => ?_⟩, fun q q1 q2 => mq q (by omega) (by omega) (by omega), m1q⟩
  · exact (hV i hi).o (by rw [oq 19 (by decide) (by decide) (by decide)]) (by rw [oq 20 (by decide) (by decide) (by decide)]) (by rw [oq 21 (by decide) (by decide) (by decide)]) (by rw [mq 25 (by decide) (by decide) (by decide)]) (by rw [mq 26 (by decide) (by decide) (by decide)]) (fun _ _ => rfl) (by omega) tf
  · by_cases g : f = nF
    · subst g
      refine ⟨a, b, env, ha, hb, by rw [a22, upd_at], by rw [a23, upd_at], by rw [a27, upd_ne (by omega), upd_at], by rw [a27, upd_at], by rw [a28, upd_at], ?_, if_pos rfl⟩
      rw [a28, upd_ne (by omega), upd_at, oq 21 (by decide) (by decide) (by decide)]
      exact hE.mono (Nat.le_refl _) tf
    · exact (hF f (by omega)).o (Nat.le_refl _) (by rw [a22, upd_ne g]) (by rw [a23, upd_ne g]) (fun a _ => by rw [oq 21 (by decide) (by decide) (by decide)]) (fun j hj => ⟨by rw [a27, upd_ne (by omega), upd_ne (by omega)], by rw [a28, upd_ne (by omega), upd_ne (by omega)]⟩) (fun _ _ => rfl) (fun g hg => tf g (by omega))
  · rw [oq q (by omega) (by omega) (by omega)]; exact o1 q hq
  · rw [mq q (by omega) (by omega) (by omega)]; exact o2 q hq
  · rw [m1q j h31]; exact o3 j h20 h22 h29 h30 h31
end
