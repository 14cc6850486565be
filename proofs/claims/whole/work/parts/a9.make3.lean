/-! make, the call -/
/-- both answer alike, and the class's fields name what they named -/
def lc_twD (D : sm_D) (jc jr : Option sm_S) (P : sm_D → sm_M → sm_M → Prop) : Prop := ∃ (r : Int32) (Mc Mm : sm_M), jc = some (r, D, Mc) ∧ jr = some (r, [], Mm) ∧ P D Mc Mm
theorem lc_twD.two {D : sm_D} {jc jr : Option sm_S} {P : sm_D → sm_M → sm_M → Prop} (h : lc_twD D jc jr P) : lc_two jc jr P := by
  obtain ⟨r, Mc, Mm, h⟩ := h
  exact ⟨r, D, Mc, Mm, h⟩
section
variable {pV : pVt} {nB nC p d1 d3 d4 n : Nat} {L LM : List Ty} {W : Nat → Ty} {A : Nat → Option Ty} {Mc Mm N : sm_M} {D : sm_D} {k a x y z h : Int32}
theorem exI.grow {i : Nat} (hi : i < n) (he : exI L Mc i) : exI L (stC Mc n k a x y z h) i := by
  obtain ⟨k', h', a1, a2, a3, a4, a5, a6, a7, a8, a9, a10⟩ := he
  have g : ∀ {w : Int32}, exP Mc i h' w → exP (stC Mc n k a x y z h) i h' w := by
    rintro w ⟨e, g, b1, b2, b3, b4⟩
    exact ⟨e, g, b1, b2, by rw [stC_15, upd_ne (by omega)]; exact b3, b4⟩
  refine ⟨k', h', a1, ?_, a3, a4, ?_, fun q => ?_, fun q => ?_, fun q => ?_, fun q => ?_, fun q => ?_⟩
  · rw [stC_10, upd_ne (by omega)]; exact a2
  · rw [stC_15, upd_ne (by omega)]; exact a5
  · rw [stC_12, upd_ne (by omega)]; exact g (a6 q)
  · rw [stC_13, upd_ne (by omega)]; exact g (a7 q)
  · rw [stC_14, upd_ne (by omega)]; exact g (a8 q)
  · rw [stC_11, upd_ne (by omega)]; exact a9 q
  · rw [stC_11, upd_ne (by omega)]; exact a10 q
/-- a kept type's kind on both sides -/
theorem ty_kind (h : rlT L LM Mc N) {i : Nat} {t : Ty} (hi : L[i]? = some t) : ∃ m r : Nat, m < 5 ∧ Mc 2 i = nI m ∧ N 7 i = nI r ∧ r < 3000 ∧ i < 30 ∧ N 2 r = nI m ∧ (m = 2 → ∃ a b, t = tyF a b) ∧ (m = 3 → ∃ a, t = tyR a) ∧ (∀ a b, t = tyF a b → m = 2) ∧ ∀ a, t = tyR a → m = 3 := by
  obtain ⟨r, hr, h7, h3, h30⟩ := r_numI h hi
  have ht := (h.2.2.2.1 t (List.mem_of_getElem? hi)).1
  have key : ∀ {m : Nat} {o1 o2 o3 : Option Ty}, t = ty_mk m o1 o2 o3 → m < 5 ∧ Mc 2 i = nI m ∧ N 2 r = nI m := by
    intro m o1 o2 o3 e
    rw [e] at hi hr
    obtain ⟨b1, b2, -⟩ := h.1.row hi
    obtain ⟨-, b4, -⟩ := h.2.2.2.2.1.row hr
    exact ⟨b1, b2, b4⟩
  have fin : ∀ {m : Nat} {o1 o2 o3 : Option Ty}, t = ty_mk m o1 o2 o3 → (m = 2 → ∃ a b, t = tyF a b) → (m = 3 → ∃ a, t = tyR a) → ∃ m r : Nat, m < 5 ∧ Mc 2 i = nI m ∧ N 7 i = nI r ∧ r < 3000 ∧ i < 30 ∧ N 2 r = nI m ∧ (m = 2 → ∃ a b, t = tyF a b) ∧ (m = 3 → ∃ a, t = tyR a) ∧ (∀ a b, t = tyF a b → m = 2) ∧ ∀ a, t = tyR a → m = 3 := by
    intro m o1 o2 o3 e h2 h3'
    obtain ⟨b1, b2, b3⟩ := key e
    exact ⟨m, r, b1, b2, h7, h3, h30, b3, h2, h3', fun a b q => (ty_mk_inj (e.symm.trans q)).1, fun a q => (ty_mk_inj (e.symm.trans q)).1⟩
  rcases ht with e | ⟨a, b, e⟩ | ⟨a, b, e⟩ | ⟨a, e⟩ | ⟨o1, o2, o3, e⟩
  · exact fin (m := 0) (o1 := none) (o2 := none) (o3 := none) e (fun q => absurd q (by decide)) (fun q => absurd q (by decide))
  · exact fin e (fun q => absurd q (by decide)) (fun q => absurd q (by decide))
  · exact fin e (fun _ => ⟨a, b, e⟩) (fun q => absurd q (by decide))
  · exact fin e (fun q => absurd q (by decide)) (fun _ => ⟨a, e⟩)
  · exact fin e (fun q => absurd q (by decide)) (fun q => absurd q (by decide))
theorem r_parts {kk : Nat} (hk : kk ≤ 10) : jR_partsOf (nI kk) [] N = some (nI (tPn kk), [], N) := by
  match kk, hk with
  | 0, _ => rfl
  | 1, _ => rfl
  | 2, _ => rfl
  | 3, _ => rfl
  | 4, _ => rfl
  | 5, _ => rfl
  | 6, _ => rfl
  | 7, _ => rfl
  | 8, _ => rfl
  | 9, _ => rfl
  | 10, _ => rfl
  | k + 11, h => omega
theorem tPn_3 {kk : Nat} (hk : kk ≤ 10) : tPn kk ≤ 3 := by
  match kk, hk with
  | 0, _ => decide
  | 1, _ => decide
  | 2, _ => decide
  | 3, _ => decide
  | 4, _ => decide
  | 5, _ => decide
  | 6, _ => decide
  | 7, _ => decide
  | 8, _ => decide
  | 9, _ => decide
  | 10, _ => decide
  | k + 11, h => omega
theorem hm_8 {np gx gy gz : Nat} (h3 : np ≤ 3) (hx : 0 < np → gx ≤ 8) (hy : 1 < np → gy ≤ 8) (hz : 2 < np → gz ≤ 8) : hm np gx gy gz ≤ 8 := by
  match np, h3 with
  | 0, _ => exact Nat.zero_le _
  | 1, _ => exact hx (by decide)
  | 2, _ =>
    have := hx (by decide)
    have := hy (by decide)
    show (if gx < gy then gy else gx) ≤ 8
    split <;> omega
  | 3, _ =>
    have := hx (by decide)
    have := hy (by decide)
    have := hz (by decide)
    show (if (if gx < gy then gy else gx) < gz then gz else if gx < gy then gy else gx) ≤ 8
    split <;> split <;> omega
  | k + 4, h => omega
/-- what is behind the first questions -/
theorem q_keep {kk : Nat} (hp : (p = 40 ∧ d1 = 50) ∨ (p = 50 ∧ d1 = 40)) (hR : rl pV p L LM nC nB W A Mc N) (hk : kk ≤ 10) (hn : n < 40) (h6 : Mc 9 6 = nI n) (h13 : N 1 13 = nI n) (hrow : ∀ i, i < n → N 12 i = Mc 10 i ∧ N 13 i = Mc 11 i ∧ N 14 i = Mc 12 i ∧ N 15 i = Mc 13 i ∧ N 16 i = Mc 14 i ∧ N 17 i = Mc 15 i) (hI : ∀ i, i < n → exI L Mc i) (h1 : kk = 1 → ∃ v : Nat, v ≤ 20 ∧ a = nI v) (h6a : kk = 6 → ∃ (t : Nat) (b c : Ty), a = nI t ∧ L[t]? = some (tyF b c)) : lc_twD [p, d1, p, d3, d4] (jE_keep_38 (nI kk) a x y z [p, d1, p, d3, d4] Mc) (jR_make_78 (nI kk) a x y z (nI (tPn kk)) [] N) (Rl pV) := by
  have h3 := tPn_3 hk
  have hp40 : 40 ≤ p := by rcases hp with ⟨q, -⟩ | ⟨q, -⟩ <;> rw [q] <;> decide
  rcases q_parts (D := [p, d1, p, d3, d4]) (by omega) h3 h6 h13 (fun i hi => (hrow i hi).2.2.2.2.2) hI x y z with ⟨gx, gy, gz, ax, ay, az, hc, hm'⟩ | ⟨hc, hm'⟩
  · have l8 : hm (tPn kk) gx gy gz ≤ 8 := hm_8 h3 (fun q => by obtain ⟨e, -, -, -, f⟩ := ax q; exact f) (fun q => by obtain ⟨e, -, -, -, f⟩ := ay q; exact f) (fun q => by obtain ⟨e, -, -, -, f⟩ := az q; exact f)
    rw [e_store hk hn h6 (by omega) hc, hm', r_store hn h13 (by omega)]
    by_cases h8 : 8 < hm (tPn kk) gx gy gz + 1
    · rw [if_pos h8, if_pos h8]
      exact ⟨-1, Mc, N, rfl, rfl, Rl.mk hp hR⟩
    · rw [if_neg h8, if_neg h8]
      refine ⟨nI n, _, _, rfl, rfl, Rl.mk (L := L) (LM := LM) (nC := nC) (nB := nB) (W := W) (A := A) hp ?_⟩
      obtain ⟨r1, r2, r3, r4, r5⟩ := hR
      refine ⟨r1.o (fun q hq => stC_o (by omega)) (fun q a b => stM_o (by omega) (by omega)) (stM_1 (by decide)) (stM_1 (by decide)), ⟨n + 1, by omega, up_at, up_at, ?_, ?_⟩, ?_, r4.o (fun q a b => stC_o (Or.inr (Nat.lt_of_lt_of_le (by decide) (Nat.le_trans hp40 a)))) (fun q a b => stM_o (by omega) (by omega)) (stM_1 (by decide)) (stM_1 (by decide)) (stM_1 (by decide)), r5.o (fun q a b => stC_o (by omega)) (fun q hq => stM_o (by omega) (by omega)) (fun j a b => stM_1 (by omega))⟩
      · intro i hi
        rw [stM_12, stM_13, stM_14, stM_15, stM_16, stM_17, stC_10, stC_11, stC_12, stC_13, stC_14, stC_15]
        by_cases e : i = n
        · subst e
          rw [upd_at, upd_at, upd_at, upd_at, upd_at, upd_at, upd_at, upd_at, upd_at, upd_at, upd_at, upd_at]
          exact ⟨rfl, rfl, rfl, rfl, rfl, rfl⟩
        · rw [upd_ne e, upd_ne e, upd_ne e, upd_ne e, upd_ne e, upd_ne e, upd_ne e, upd_ne e, upd_ne e, upd_ne e, upd_ne e, upd_ne e]
          exact hrow i (by omega)
      · intro i hi
        by_cases e : i = n
        · subst e
          refine ⟨kk, hm (tPn kk) gx gy gz + 1, hk, ?_, by omega, by omega, ?_, fun q => ?_, fun q => ?_, fun q => ?_, fun q => ?_, fun q => ?_⟩
          · rw [stC_10, upd_at]
          · rw [stC_15, upd_at]
          · rw [stC_12, upd_at]; exact (ax q).part (by have := hm_x (gx := gx) (gy := gy) (gz := gz) q; omega)
          · rw [stC_13, upd_at]; exact (ay q).part (by have := hm_y (gx := gx) (gy := gy) (gz := gz) q; omega)
          · rw [stC_14, upd_at]; exact (az q).part (by have := hm_z (gx := gx) (gy := gy) (gz := gz) q; omega)
          · rw [stC_11, upd_at]; exact h1 q
          · rw [stC_11, upd_at]; exact h6a q
        · exact (hI i (by omega)).grow (by omega)
      · rw [stM_1 (by decide), stC_o (by omega), stC_o (by omega)]
        exact r3
  · refine ⟨-1, Mc, N, ?_, hm' _ _, Rl.mk hp hR⟩
    have ht : sm_tab tPARTS kk = nI (tPn kk) := rfl
    unfold jE_keep_38
    rw [ck_nI (by omega) (by decide), nI_clamp (by omega), ht, hc, bi_some, dq_self, if_pos rfl]
    rfl
theorem q_make (hp : (p = 40 ∧ d1 = 50) ∨ (p = 50 ∧ d1 = 40)) (hR : rl pV p L LM nC nB W A Mc Mm) {k a x y z : Int32} : lc_two (jA_make k a x y z [p, d1, p, d3, d4] Mc) (jR_make k a x y z [] Mm) (Rl pV) := by
  have h' := hR.up0 (v := 0)
  simp only [jR_make, sm_wr]
  generalize sm_up Mm 1 0 0 = N at h' ⊢
  obtain ⟨n, hn, h6, h13, hrow, hI⟩ := h'.2.1
  have no : ∀ {q : Option sm_S}, jA_make k a x y z [p, d1, p, d3, d4] Mc = some (-1, [p, d1, p, d3, d4], Mc) → q = some (-1, [], N) → lc_two (jA_make k a x y z [p, d1, p, d3, d4] Mc) q (Rl pV) := fun h1 h2 => ⟨-1, [p, d1, p, d3, d4], Mc, N, h1, h2, Rl.mk hp h'⟩
  have mk20 : ∀ {r : Int32} {M' : sm_M}, jE_keep k a x y z [p, d1, p, d3, d4] Mc = some (r, [p, d1, p, d3, d4], M') → jA_make_20 k a x y z [p, d1, p, d3, d4] Mc = some (r, [p, d1, p, d3, d4], M') := by
    intro r M' h
    unfold jA_make_20
    rw [h, bi_some, dq_self]
  have c6 : ∀ {r : Int32} {M' : sm_M}, k ≠ 6 → jA_make_20 k a x y z [p, d1, p, d3, d4] Mc = some (r, [p, d1, p, d3, d4], M') → jA_make k a x y z [p, d1, p, d3, d4] Mc = some (r, [p, d1, p, d3, d4], M') := by
    intro r M' h6 h
    unfold jA_make
    rw [if_neg h6, h]
  by_cases h0 : k < 0
  · have h6k : k ≠ 6 := fun q => by subst q; exact absurd h0 (by decide)
    refine no (c6 h6k (mk20 ?_)) (by rw [if_pos h0]; rfl)
    unfold jE_keep
    by_cases hf : Mc 9 6 = 40
    · rw [if_pos hf]; rfl
    · rw [if_neg hf, if_pos h0]; rfl
  · by_cases h10 : (10 : Int32) < k
    · have h6k : k ≠ 6 := fun q => by subst q; exact absurd h10 (by decide)
      refine no (c6 h6k (mk20 ?_)) (by rw [if_neg h0, if_pos h10]; rfl)
      unfold jE_keep
      by_cases hf : Mc 9 6 = 40
      · rw [if_pos hf]; rfl
      · rw [if_neg hf, if_neg h0, if_pos h10]; rfl
    · rw [if_neg h0, if_neg h10]
      obtain ⟨kk, hk, rfl⟩ := nI_of2 (M := 10) (n := 10) (by decide) h0 (Int32.not_lt.mp h10)
      by_cases hf : Mc 9 6 = 40
      · have hm40 : N 1 13 = 40 := h13.trans (h6.symm.trans hf)
        rw [if_pos hm40]
        have e20 : jA_make_20 (nI kk) a x y z [p, d1, p, d3, d4] Mc = some (-1, [p, d1, p, d3, d4], Mc) := mk20 (by unfold jE_keep; rw [if_pos hf]; rfl)
        refine no ?_ rfl
        by_cases h6k : nI kk = 6
        · unfold jA_make
          rw [if_pos h6k]
          rcases j_has (D := [p, d1, p, d3, d4]) h'.1.1 a with ⟨i, t, hi, rfl, -⟩ | ⟨-, hh⟩
          · rw [j_kindOf h'.1.1 hi, bi_some, dq_self]
            by_cases h2 : Mc 2 i = 2
            · rw [if_pos h2]; exact e20
            · rw [if_neg h2]
          · have : jT_kindOf a [p, d1, p, d3, d4] Mc = some (-1, [p, d1, p, d3, d4], Mc) := by
              unfold jT_kindOf
              rw [hh, bi_some, dq_self, if_pos rfl]
              rfl
            rw [this, bi_some, dq_self, if_neg (by decide)]
        · exact c6 h6k e20
      · have hm40 : ¬ N 1 13 = 40 := fun q => hf (h6.trans (h13.symm.trans q))
        have hn' : n < 40 := by
          by_cases q : n = 40
          · subst q; exact absurd h6 hf
          · omega
        rw [if_neg hm40, r_parts hk, bi_some, dq_self]
        by_cases h1 : nI kk = 1
        · have e1 : kk = 1 := nI_inj (by omega) (by decide) (show nI kk = nI 1 from h1)
          subst e1
          rw [if_pos h1]
          by_cases a0 : a < 0
          · rw [if_pos a0]
            refine no (c6 (by decide) (mk20 ?_)) rfl
            unfold jE_keep
            rw [if_neg hf, if_neg h0, if_neg h10, if_pos h1, if_pos a0]; rfl
          · by_cases a20 : (20 : Int32) < a
            · rw [if_neg a0, if_pos a20]
              refine no (c6 (by decide) (mk20 ?_)) rfl
              unfold jE_keep
              rw [if_neg hf, if_neg h0, if_neg h10, if_pos h1, if_neg a0, if_pos a20]; rfl
            · rw [if_neg a0, if_neg a20]
              obtain ⟨r, M1, M2, e1, e2, e3⟩ := q_keep (d3 := d3) (d4 := d4) (a := a) (x := x) (y := y) (z := z) (kk := 1) hp h' hk hn' h6 h13 hrow hI (fun _ => nI_of2 (M := 20) (n := 20) (by decide) a0 (Int32.not_lt.mp a20)) (fun q => absurd q (by decide))
              refine ⟨r, _, M1, M2, c6 (by decide) (mk20 ?_), ?_, e3⟩
              · unfold jE_keep
                rw [if_neg hf, if_neg h0, if_neg h10, if_pos h1, if_neg a0, if_neg a20]; exact e1
              · unfold jR_make_47
                rw [if_neg (by decide)]; exact e2
        · rw [if_neg h1]
          have kp : jE_keep (nI kk) a x y z [p, d1, p, d3, d4] Mc = jE_keep_38 (nI kk) a x y z [p, d1, p, d3, d4] Mc := by
            unfold jE_keep
            rw [if_neg hf, if_neg h0, if_neg h10, if_neg h1]
          have e1' : kk ≠ 1 := fun q => h1 (by rw [q]; rfl)
          unfold jR_make_47
          by_cases h6k : nI kk = 6
          · have e6 : kk = 6 := nI_inj (by omega) (by decide) (show nI kk = nI 6 from h6k)
            subst e6
            rw [if_pos h6k]
            rcases r_made (D := [p, d1, p, d3, d4]) h'.1 (x := a) with ⟨i, t, hi, rfl, m1, m2⟩ | ⟨m1, m2⟩
            · obtain ⟨m, r, b1, b2, b3, b4, b5, b6, b7, -, b8, -⟩ := ty_kind h'.1 hi
              rw [m2, bi_some, dq_self, if_neg (by decide), ck_nI b5 (by decide), nI_clamp (by omega), b3, ck_nI b4 (by decide), nI_clamp (by omega), b6]
              by_cases g : nI m = 2
              · have em : m = 2 := nI_inj (by omega) (by decide) (show nI m = nI 2 from g)
                obtain ⟨ta, tb, et⟩ := b7 em
                rw [if_pos g]
                obtain ⟨r', M1, M2, e1, e2, e3⟩ := q_keep (d3 := d3) (d4 := d4) (a := nI i) (x := x) (y := y) (z := z) (kk := 6) hp h' hk hn' h6 h13 hrow hI (fun q => absurd q (by decide)) (fun _ => ⟨i, ta, tb, rfl, by rw [← et]; exact hi⟩)
                refine ⟨r', _, M1, M2, ?_, e2, e3⟩
                unfold jA_make
                rw [if_pos h6k, j_kindOf h'.1.1 hi, bi_some, dq_self, b2, if_pos g]
                exact mk20 (kp.trans e1)
              · rw [if_neg g]
                refine no ?_ rfl
                unfold jA_make
                rw [if_pos h6k, j_kindOf h'.1.1 hi, bi_some, dq_self, b2, if_neg g]
            · rw [m2, bi_some, dq_self, if_pos rfl]
              refine no ?_ rfl
              unfold jA_make
              have : jT_kindOf a [p, d1, p, d3, d4] Mc = some (-1, [p, d1, p, d3, d4], Mc) := by
                unfold jT_kindOf
                rw [m1, bi_some, dq_self, if_pos rfl]
                rfl
              rw [if_pos h6k, this, bi_some, dq_self, if_neg (by decide)]
          · rw [if_neg h6k]
            obtain ⟨r, M1, M2, e1, e2, e3⟩ := q_keep (d3 := d3) (d4 := d4) (a := a) (x := x) (y := y) (z := z) (kk := kk) hp h' hk hn' h6 h13 hrow hI (fun q => absurd q e1') (fun q => absurd (show nI kk = 6 by rw [q]; rfl) h6k)
            exact ⟨r, _, M1, M2, c6 h6k (mk20 (kp.trans e1)), e2, e3⟩
end
