/-! add, the call -/
section
variable {pV : pVt} {nB nC p d1 d3 d4 n cur o : Nat} {L LM : List Ty} {W : Nat → Ty} {A : Nat → Option Ty} {Mc Mm N : sm_M} {D : sm_D} {k a b c x y v s : Int32}
/-- the code with one more instruction -/
theorem rlC_add {w : Ty} (ho : o ≤ 12) (hft : ftA L o a b c) (h : rlC pV p L LM nC nB W A Mc N) (h13 : Mc p 13 = 0) (hB : 0 < nB) (hn : nC < 300) (hw : o = 7 → ty_pr L c (some w)) (hwk : o = 7 → wOk w) (hy : o ≠ 7 → y = zf (fm o 2) c) (hy7 : o = 7 → ty_pr LM y (some w)) {X : sm_M} (hX : ∀ q, q ≠ 1 → X q = N q) (hX1 : ∀ j, j = 37 ∨ j = 38 → X 1 j = N 1 j) : rlC pV p L LM (nC + 1) nB (fun i => if i = nC then w else W i) A (piC Mc p nC (nB - 1) (nI o) (zf (fm o 0) a) (zf (fm o 1) b) (zf (fm o 2) c) (if o = 7 then nI (ty_sz w) else zf (fm o 2) c)) (emM X nC (nB - 1) (nI o) (zf (fm o 0) a) (zf (fm o 1) b) y) := by
  obtain ⟨c1, c2, c3, c4, c5, c6, c7, c8, c9, c10, c11⟩ := h
  obtain ⟨-, f4, f5, f6⟩ := c11.resolve_right (fun q => by rw [h13] at q; exact absurd q.1 (by decide))
  obtain ⟨f6, f7⟩ := f6 hB
  obtain ⟨s, l, q0, q1, q2, q3, q4⟩ := c9 (nB - 1) (by omega)
  have hsl : s + l = nC := by
    rw [q1, q3, nI_add] at f7
    exact nI_inj (by omega) (by omega) f7
  have z7 : zf (fm 7 2) c = c := rfl
  have o7 : nI o = 7 ↔ o = 7 := ⟨fun q => nI_inj (by omega) (by decide) (show nI o = nI 7 from q), fun q => by rw [q]; rfl⟩
  refine ⟨by omega, c2, piC_6, emM_39, ?_, ?_, ?_, fun i hi => ?_, fun b' hb' => ?_, fun i hi => ?_, Or.inl ⟨?_, fun i hi q => ?_, fun i hi => ?_, fun _ => ⟨?_, ?_⟩⟩⟩
  · rw [piC_p (by decide)]; exact c5
  · rw [emM_1 (by decide) (by decide), hX1 38 (Or.inr rfl)]; exact c6
  · rw [emM_1 (by decide) (by decide), hX1 37 (Or.inl rfl), piC_p (by decide)]; exact c7
  · rw [piC_1, piC_2, piC_3, piC_4, piC_5, emM_29, emM_30, emM_31, emM_32, hX 29 (by decide), hX 30 (by decide), hX 31 (by decide), hX 32 (by decide)]
    by_cases e : i = nC
    · subst e
      rw [upd_at, upd_at, upd_at, upd_at, upd_at, upd_at, upd_at, upd_at, upd_at]
      refine ⟨rfl, rfl, rfl, ft_frm ho hft hy, fun q => ?_, fun q => ?_⟩
      · have n7 : o ≠ 7 := fun z => q (o7.mpr z)
        rw [if_neg n7, hy n7]
        exact ⟨rfl, rfl⟩
      · have e7 := o7.mp q
        rw [if_pos e7]
        show ty_pr LM y (some (if i = i then w else W i)) ∧ nI (ty_sz w) = nI (ty_sz (if i = i then w else W i)) ∧ wOk (if i = i then w else W i)
        rw [if_pos rfl]
        exact ⟨hy7 e7, rfl, hwk e7⟩
    · rw [upd_ne e, upd_ne e, upd_ne e, upd_ne e, upd_ne e, upd_ne e, upd_ne e, upd_ne e, upd_ne e]
      obtain ⟨e1, e2, e3, e4, e5, e6⟩ := c8 i (by omega)
      refine ⟨e1, e2, e3, e4, e5, fun q => ?_⟩
      show ty_pr LM (N 32 i) (some (if i = nC then w else W i)) ∧ Mc (p + 5) i = nI (ty_sz (if i = nC then w else W i)) ∧ wOk (if i = nC then w else W i)
      rw [if_neg e]
      exact e6 q
  · rw [piC_o (by omega) (by omega), piC_7, emM_o (by decide) (by decide), emM_34, hX 33 (by decide), hX 34 (by decide)]
    by_cases e : b' = nB - 1
    · subst e
      rw [upd_at, upd_at, q3, q4]
      exact ⟨s, l + 1, by omega, q1, q2, nI_1 l, nI_1 l⟩
    · rw [upd_ne e, upd_ne e]
      obtain ⟨s', l', r0, r⟩ := c9 b' hb'
      exact ⟨s', l', by omega, r⟩
  · rw [emM_o (by decide) (by decide), hX 35 (by decide), piC_o (by omega) (by omega)]
    exact c10 i hi
  · rw [piC_p (by decide)]; exact h13
  · rw [emM_29, hX 29 (by decide)] at q
    rw [piC_4]
    show ty_pr L (upd (Mc (p + 4)) nC (zf (fm o 2) c) i) (some (if i = nC then w else W i))
    by_cases e : i = nC
    · subst e
      rw [upd_at] at q
      have e7 := o7.mp q
      rw [upd_at, if_pos rfl]
      subst e7
      exact hw rfl
    · rw [upd_ne e] at q
      rw [upd_ne e, if_neg e]
      exact f4 i (by omega) q
  · rw [piC_o (by omega) (by omega)]
    exact f5 i hi
  · rw [piC_p (by decide)]; exact f6
  · rw [piC_o (by omega) (by omega), piC_7, upd_at, q1, q3, nI_1, nI_add]
    congr 1
    omega
theorem q_add (hp : (p = 40 ∧ d1 = 50) ∨ (p = 50 ∧ d1 = 40)) (hR : rl pV p L LM nC nB W A Mc Mm) {k a b c : Int32} : lc_two (jA_add p d1 p d3 d4 k a b c Mc) (jR_add k a b c [] Mm) (Rl pV) := by
  have hg := in_gC hp
  have hp40 : 40 ≤ p := by rcases hp with ⟨q, -⟩ | ⟨q, -⟩ <;> rw [q] <;> decide
  have h' := hR.up0 (v := 0)
  simp only [jR_add, sm_wr]
  generalize sm_up Mm 1 0 0 = N at h' ⊢
  have h := h'.1
  have hC := h'.2.2.2.1
  obtain ⟨c1, c2, c3, c4, c5, c6, c7, c8, c9, c10, c11⟩ := id hC
  have hno : ∀ {jc jr : Option sm_S}, jc = some (-1, [p, d1, p, d3, d4], Mc) → jr = some (-1, [], N) → lc_two jc jr (Rl pV) := fun h1 h2 => ⟨-1, [p, d1, p, d3, d4], Mc, N, h1, h2, Rl.mk hp h'⟩
  unfold jA_add
  have a33 : jA_add_33 p d1 p d3 d4 Mc = some (-1, [p, d1, p, d3, d4], Mc) := rfl
  rw [c5, c6, c7]
  by_cases hB0 : nI nB = 0
  · rw [if_pos hB0, if_pos hB0, dq_self]
    refine hno ?_ rfl
    by_cases h13 : Mc p 13 = 0
    · rw [if_pos h13]; exact a33
    · rw [if_neg h13]; exact a33
  · have hB : 0 < nB := by
      by_cases q : nB = 0
      · subst q; exact absurd nI_0 hB0
      · omega
    rw [if_neg hB0, if_neg hB0]
    by_cases h13 : Mc p 13 = 0
    · rw [if_pos h13, if_pos h13, c3]
      by_cases hk : k < 0 ∨ (12 : Int32) < k
      · refine hno ?_ ?_
        · by_cases h300 : nI nC = 300
          · rw [if_pos h300, dq_self]; exact a33
          · have : jC_takes p k a b c [p, d1, p, d3, d4] Mc = some (0, [p, d1, p, d3, d4], Mc) := by
              unfold jC_takes
              by_cases k0 : k < 0
              · rw [if_pos k0]; exact bo_0
              · rw [if_neg k0, if_pos (hk.resolve_left k0)]; exact bo_0
            rw [if_neg h300, ga_in hg, this, bi_some, dq_self, if_pos rfl]
        · by_cases k0 : k < 0
          · rw [if_pos k0]; rfl
          · rw [if_neg k0, if_pos (hk.resolve_left k0)]; rfl
      · have k0 : ¬ k < 0 := fun q => hk (Or.inl q)
        have k12 : ¬ (12 : Int32) < k := fun q => hk (Or.inr q)
        obtain ⟨o, ho, rfl⟩ := nI_of2 (M := 12) (n := 12) (by decide) k0 (Int32.not_lt.mp k12)
        rw [if_neg k0, if_neg k12, ga_in hg]
        have t1 := c_takes (p := p) (D := [p, d1, p, d3, d4]) (a := a) (b := b) (c := c) hg h ho
        have t2 := r_fits (D := []) (a := a) (b := b) (c := c) h ho
        by_cases hft : ftA L o a b c
        · rw [t1.1 hft, t2.1 hft, bi_some, bi_some, dq_self, dq_self, if_neg (show ¬ (1 : Int32) = 0 by decide), if_neg (show ¬ (1 : Int32) = 0 by decide), c4]
          by_cases h300 : nI nC = 300
          · rw [if_pos h300, if_pos h300, dq_self]
            exact hno a33 rfl
          · have hn : nC < 300 := by
              by_cases q : nC = 300
              · subst q; exact absurd rfl h300
              · omega
            rw [if_neg h300, if_neg h300, bo_0]
            obtain ⟨-, -, -, f6⟩ := c11.resolve_right (fun q => by rw [h13] at q; exact absurd q.1 (by decide))
            obtain ⟨f6, -⟩ := f6 hB
            have e54 : sm_up N 1 47 0 1 38 - 1 = nI (nB - 1) := by
              rw [up_as (by decide), c6]
              have : nB = (nB - 1) + 1 := by omega
              rw [this, nI_pred]
              rfl
            rw [e54]
            have X1 : ∀ j, j ≠ 47 → j ≠ 54 → sm_up (sm_up N 1 47 0) 1 54 (nI (nB - 1)) 1 j = N 1 j := fun j a b => by rw [up_as b, up_as a]
            have Xo : ∀ q, q ≠ 1 → sm_up (sm_up N 1 47 0) 1 54 (nI (nB - 1)) q = N q := fun q hq => by rw [up_ne hq, up_ne hq]
            have X47 : sm_up (sm_up N 1 47 0) 1 54 (nI (nB - 1)) 1 47 = 0 := by rw [up_as (by decide), up_at]
            have X54 : sm_up (sm_up N 1 47 0) 1 54 (nI (nB - 1)) 1 54 = nI (nB - 1) := up_at
            have X39 : sm_up (sm_up N 1 47 0) 1 54 (nI (nB - 1)) 1 39 = nI nC := (X1 39 (by decide) (by decide)).trans c4
            generalize sm_up (sm_up N 1 47 0) 1 54 (nI (nB - 1)) = X at X1 Xo X47 X54 X39 ⊢
            obtain ⟨w, y, hw, hwk, hy, hy7, hadd⟩ : ∃ (w : Ty) (y : Int32), (o = 7 → ty_pr L c (some w)) ∧ (o = 7 → wOk w) ∧ (o ≠ 7 → y = zf (fm o 2) c) ∧ (o = 7 → ty_pr LM y (some w)) ∧ (if nI o = 12 then jR_add_79 (nI o) a b c 1 [] X else jR_add_79 (nI o) a b c 0 [] X) = jR_add_187 (nI o) (zf (fm o 0) a) (zf (fm o 1) b) y [] X := by
              by_cases h7 : o = 7
              · subst h7
                obtain ⟨i, t, e1, e2, ew⟩ := hft.2.2
                obtain ⟨r, r1, r2, r3, r4⟩ := r_numI h e2
                refine ⟨t, nI r, fun _ => Or.inr ⟨i, t, rfl, e2, e1⟩, fun _ => ew, fun q => absurd rfl q, fun _ => Or.inr ⟨r, t, rfl, r1, rfl⟩, ?_⟩
                rw [if_neg (show ¬ nI 7 = 12 by decide), r_add79_7, e1, ck_nI r4 (by decide), nI_clamp (by omega), Xo 7 (by decide), r2]
                rfl
              · refine ⟨tyN, zf (fm o 2) c, fun q => absurd q h7, fun q => absurd q h7, fun _ => rfl, fun q => absurd q h7, ?_⟩
                rw [← r_add79 ho h7]
                by_cases h12 : o = 12
                · subst h12
                  rw [if_pos (show nI 12 = 12 from rfl), if_pos rfl]
                · rw [if_neg (show ¬ nI o = (12 : Int32) from fun q => h12 (nI_inj (by omega) (by decide) (show nI o = nI 12 from q))), if_neg h12]
            rw [hadd, ga_in hg, c_put (cur := nB - 1) hg hp40 ho hn (by omega) c2 c3 c5 f6 h.1 hw, bi_some, dq_self, ga_in hg, j_begin, bi_some, dq_self]
            unfold jR_add_187
            rw [r_emit (cur := nB - 1) hn (by omega) X47 X39 X54, bi_some, dq_self, r_restart, bi_some, dq_self, rsM_1 (by decide) (by decide) (by decide) (by decide), emM_39, bgM_o (by omega) (by omega) (by omega), piC_6]
            refine ⟨nI (nC + 1), [p, d1, p, d3, d4], _, _, rfl, rfl, Rl.mk (L := L) (LM := LM) (nC := nC + 1) (nB := nB) (W := fun i => if i = nC then w else W i) (A := A) hp (rl_begin hp ?_ ?_ ?_ (rlC_add ho hft hC h13 hB hn hw hwk hy hy7 Xo (fun j hj => X1 j (by omega) (by omega))))⟩
            · exact h.o (fun q hq => piC_o (by omega) (by omega)) (fun q x y => by rw [emM_o (by omega) (by omega), Xo q (by omega)]) (by rw [emM_1 (by decide) (by decide), X1 1 (by decide) (by decide)]) (by rw [emM_1 (by decide) (by decide), X1 7 (by decide) (by decide)])
            · exact h'.2.1.o (fun q x y => piC_o (by omega) (by omega)) (fun q x y => by rw [emM_o (by omega) (by omega), Xo q (by omega)]) (by rw [emM_1 (by decide) (by decide), X1 13 (by decide) (by decide)])
            · rw [emM_1 (by decide) (by decide), X1 29 (by decide) (by decide), piC_o (by omega) (by omega), piC_o (by omega) (by omega)]
              exact h'.2.2.1
        · rw [t1.2 hft, t2.2 hft, bi_some, bi_some, dq_self, dq_self, if_pos rfl, if_pos rfl]
          refine hno ?_ rfl
          by_cases h300 : nI nC = 300
          · rw [if_pos h300]; exact a33
          · rw [if_neg h300]
    · rw [if_neg h13, if_neg h13, dq_self]
      exact hno a33 rfl
end
