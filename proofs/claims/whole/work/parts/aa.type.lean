/-! type -/
noncomputable def nmb (N : sm_M) (x : Int32) : Int32 := if x < 0 then -1 else N 7 x.toNatClampNeg
section
variable {pV : pVt} {nB nC p d1 d3 d4 n : Nat} {L LM : List Ty} {W : Nat → Ty} {A : Nat → Option Ty} {Mc Mm N : sm_M} {D : sm_D} {k a b c x : Int32} {oa ob oc o : Option Ty}
theorem r_nmb {N' : sm_M} (h : rlT L LM Mc N) (hx : ty_pr L x o) (h7 : N' 7 = N 7) : jR_numberOf x D N' = some (nmb N x, D, N') := by
  unfold jR_numberOf nmb
  rcases hx with ⟨-, rfl⟩ | ⟨i, t, -, hi, rfl⟩
  · rw [if_pos (by decide), if_pos (by decide)]; rfl
  · have hl := (List.getElem?_eq_some_iff.mp hi).1
    have h30 := h.2.1
    rw [if_neg (nI_pos (by omega)), if_neg (nI_pos (by omega)), ck_nI (by omega) (by decide), h7]; rfl
theorem nmb_pr (h : rlT L LM Mc N) (hx : ty_pr L x o) : ty_pr LM (nmb N x) o := by
  unfold nmb
  rcases hx with ⟨h1, rfl⟩ | ⟨i, t, h1, hi, rfl⟩
  · rw [if_pos (by decide)]; exact Or.inl ⟨h1, rfl⟩
  · obtain ⟨r, hr, h7, -, h3⟩ := r_numI h hi
    rw [if_neg (nI_pos (by omega)), nI_clamp (by omega), h7]
    exact Or.inr ⟨r, t, h1, hr, rfl⟩
theorem so_30 (h : rlT L LM Mc N) (hx : ty_pr L x o) : ty_so o ≤ 30 := by
  rcases hx with ⟨rfl, -⟩ | ⟨i, t, rfl, hi, -⟩
  · exact Nat.zero_le _
  · exact (h.2.2.2.1 t (List.mem_of_getElem? hi)).2
def trow8 (N : sm_M) (i : Nat) (k a b c : Int32) : Prop := N 8 i = k ∧ N 9 i = a ∧ N 10 i = b ∧ N 11 i = c
theorem r_tloop {len : Nat} (hlen : len ≤ 30) (hc : N 1 7 = nI len) : ∀ (d i : Nat), i + d = len →
    (∃ r, i ≤ r ∧ r < len ∧ trow8 N r k a b c ∧ jR_type_137 k a b c (nI i) D N = some (nI r, D, N)) ∨ ((∀ j, i ≤ j → j < len → ¬ trow8 N j k a b c) ∧ jR_type_137 k a b c (nI i) D N = jR_type_137 k a b c (nI len) D N) := by
  intro d
  induction d with
  | zero =>
    intro i hi
    have e : i = len := by omega
    subst e
    exact Or.inr ⟨fun j h1 h2 => by omega, rfl⟩
  | succ d ih =>
    intro i hi
    have hcl : (nI i).toNatClampNeg = i := nI_clamp (by omega)
    have hlt : nI i < N 1 7 := by rw [hc]; exact nI_lt (by omega) (by omega)
    have hck : ∀ {ρ : Type} {q : Option ρ}, sm_ck (nI i) 30 q = q := ck_nI (by omega) (by decide)
    by_cases hr : trow8 N i k a b c
    · refine Or.inl ⟨i, Nat.le_refl _, by omega, hr, sm_lp_end ?_⟩
      show jR_type_137_c k a b c (nI i) D N = _
      unfold jR_type_137_c
      obtain ⟨h1, h2, h3, h4⟩ := hr
      rw [if_pos hlt, hck, hcl, if_pos h1, hck, if_pos h2, hck, if_pos h3, hck, if_pos h4]
    · have hstep : jR_type_137_b D (k, a, b, c, nI i, N) = some (.inl (k, a, b, c, nI (i + 1), N)) := by
        show jR_type_137_c k a b c (nI i) D N = _
        have h65 : sm_dq D D (jR_type_195 k a b c (nI i) D N) = some (.inl (k, a, b, c, nI (i + 1), N)) := by
          unfold jR_type_195
          rw [dq_self, dq_self, nI_succ]
        unfold jR_type_137_c
        rw [if_pos hlt, hck, hcl]
        by_cases h1 : N 8 i = k
        · rw [if_pos h1, hck]
          by_cases h2 : N 9 i = a
          · rw [if_pos h2, hck]
            by_cases h3 : N 10 i = b
            · rw [if_pos h3, hck, if_neg (fun h4 => hr ⟨h1, h2, h3, h4⟩)]
              exact h65
            · rw [if_neg h3]
              exact h65
          · rw [if_neg h2]
            exact h65
        · rw [if_neg h1]
          exact h65
      have he : jR_type_137 k a b c (nI i) D N = jR_type_137 k a b c (nI (i + 1)) D N := sm_lp_eq hstep
      rw [he]
      rcases ih (i + 1) (by omega) with ⟨r, h1, h2, h3, h4⟩ | ⟨h1, h2⟩
      · exact Or.inl ⟨r, by omega, h2, h3, h4⟩
      · refine Or.inr ⟨fun j h3 h4 h5 => ?_, h2⟩
        by_cases hji : j = i
        · subst hji; exact hr h5
        · exact h1 j (by omega) h4 h5
/-- the old rows of a table that has grown -/
theorem tab_same {M M' : sm_M} {K : List Ty} (hT : tabC M L) (hT' : tabC M' (L ++ K)) {i m : Nat} {o1 o2 o3 : Option Ty} (hi : L[i]? = some (ty_mk m o1 o2 o3)) : M' 2 i = M 2 i ∧ M' 3 i = M 3 i ∧ M' 4 i = M 4 i ∧ M' 5 i = M 5 i := by
  obtain ⟨-, a2, a3, a4, a5⟩ := hT.row hi
  have hi' : (L ++ K)[i]? = some (ty_mk m o1 o2 o3) := by rw [List.getElem?_append_left (List.getElem?_eq_some_iff.mp hi).1]; exact hi
  obtain ⟨-, b2, b3, b4, b5⟩ := hT'.row hi'
  have nd := hT'.2.2.1
  exact ⟨b2.trans a2.symm, ty_pr.inj nd b3 a3.grow, ty_pr.inj nd b4 a4.grow, ty_pr.inj nd b5 a5.grow⟩
theorem tyok_mk {t : Ty} (h : tyok t) : ∃ (m : Nat) (o1 o2 o3 : Option Ty), t = ty_mk m o1 o2 o3 := by
  rcases h with e | ⟨a, b, e⟩ | ⟨a, b, e⟩ | ⟨a, e⟩ | ⟨o1, o2, o3, e⟩
  · exact ⟨_, _, _, _, e⟩
  · exact ⟨_, _, _, _, e⟩
  · exact ⟨_, _, _, _, e⟩
  · exact ⟨_, _, _, _, e⟩
  · exact ⟨_, _, _, _, e⟩
/-- the rest stays related when the tables grow -/
theorem rl_grow {K K' : List Ty} {Mc' N' : sm_M} (hp : (p = 40 ∧ d1 = 50) ∨ (p = 50 ∧ d1 = 40)) (h : rl pV p L LM nC nB W A Mc N) (hT : rlT (L ++ K) (LM ++ K') Mc' N') (hc : ∀ q, 8 < q → Mc' q = Mc q) (hm : ∀ q, 11 < q → N' q = N q) (h1 : ∀ j, j ≠ 1 → j ≠ 7 → N' 1 j = N 1 j) : rl pV p (L ++ K) (LM ++ K') nC nB W A Mc' N' := by
  obtain ⟨r1, r2, r3, r4, r5⟩ := h
  refine ⟨hT, ?_, ?_, ?_, r5.o (fun q a b => hc q (by omega)) (fun q hq => hm q (by omega)) (fun j a b => h1 j (by omega) (by omega))⟩
  · have r2' := r2.o (Mc' := Mc') (Mm' := N') (fun q a b => hc q (by omega)) (fun q a b => hm q (by omega)) (h1 13 (by decide) (by decide))
    obtain ⟨m, a1, a2, a3, a4, a5⟩ := r2'
    refine ⟨m, a1, a2, a3, a4, fun i hi => ?_⟩
    obtain ⟨k, g, b1, b2, b3, b4, b5, b6, b7, b8, b9, b10⟩ := a5 i hi
    refine ⟨k, g, b1, b2, b3, b4, b5, b6, b7, b8, b9, fun q => ?_⟩
    obtain ⟨t, x, y, e1, e2⟩ := b10 q
    exact ⟨t, x, y, e1, by rw [List.getElem?_append_left (List.getElem?_eq_some_iff.mp e2).1]; exact e2⟩
  · rw [h1 29 (by decide) (by decide), hc 18 (by decide), hc 25 (by decide)]
    exact r3
  · have hp40 : 40 ≤ p := by rcases hp with ⟨q, -⟩ | ⟨q, -⟩ <;> rw [q] <;> decide
    have r4' := r4.o (Mc' := Mc') (Mm' := N') (fun q a b => hc q (by omega)) (fun q a b => hm q (by omega)) (h1 37 (by decide) (by decide)) (h1 38 (by decide) (by decide)) (h1 39 (by decide) (by decide))
    obtain ⟨c1, c2, c3, c4, c5, c6, c7, c8, c9, c10, c11⟩ := r4'
    refine ⟨c1, c2, c3, c4, c5, c6, c7, fun i hi => ?_, c9, fun k hk => ?_, ?_⟩
    · obtain ⟨e1, e2, e3, e4, e5, e6⟩ := c8 i hi
      exact ⟨e1, e2, e3, e4, e5, fun q => ⟨(e6 q).1.grow, (e6 q).2⟩⟩
    · exact ⟨(c10 k hk).1.grow, (c10 k hk).2⟩
    · rcases c11 with ⟨f1, f2, f3, f4⟩ | f
      · exact Or.inl ⟨f1, fun i hi q => (f2 i hi q).grow, fun k hk => (f3 k hk).grow, f4⟩
      · exact Or.inr f
end
