/-! what a step's success says -/
section
variable {ρ : Type} {sh : List sm_Sh} {sa : sm_Sa} {st : List Value} {D : sm_D} {M : sm_M} {v : ρ}
theorem sm_ck_inv {i : Int32} {n : Nat} {k : Option ρ} (h : sm_ck i n k = some v) : vp_in i n ∧ k = some v := by
  unfold sm_ck at h
  split at h
  · rename_i hc
    exact ⟨vp_in_iff.mpr hc, h⟩
  · cases h
theorem sm_bo_inv {a : Int32} {k : Option ρ} (h : sm_bo a k = some v) : (a = 0 ∨ a = 1) ∧ k = some v := by
  unfold sm_bo at h
  split at h
  · rename_i hc
    exact ⟨hc, h⟩
  · cases h
theorem sm_nz_inv {a : Int32} {k : Option ρ} (h : sm_nz a k = some v) : ¬ a = 0 ∧ k = some v := by
  unfold sm_nz at h
  split at h
  · cases h
  · rename_i hc
    exact ⟨hc, h⟩
theorem sm_p1_inv {k : Int32 → List Value → Option ρ} (h : sm_p1 st k = some v) : ∃ (a : Int32) (t : List Value), st = .int a :: t ∧ k a t = some v := by
  unfold sm_p1 at h
  split at h
  · exact ⟨_, _, rfl, h⟩
  · cases h
theorem sm_p2_inv {k : Int32 → Int32 → List Value → Option ρ} (h : sm_p2 st k = some v) : ∃ (a b : Int32) (t : List Value), st = .int b :: .int a :: t ∧ k a b t = some v := by
  unfold sm_p2 at h
  split at h
  · exact ⟨_, _, _, rfl, h⟩
  · cases h
theorem sm_pr_inv {k : Nat → List Value → Option ρ} (h : sm_pr st k = some v) : ∃ (p : Nat) (t : List Value), st = .ref (p + 1) :: t ∧ k p t = some v := by
  unfold sm_pr at h
  split at h
  · exact ⟨_, _, rfl, h⟩
  · cases h
theorem sm_v1_inv {k : Value → List Value → Option ρ} (h : sm_v1 st k = some v) : ∃ (w : Value) (t : List Value), st = w :: t ∧ sm_c1 w = true ∧ k w t = some v := by
  unfold sm_v1 at h
  split at h
  · rename_i w t
    split at h
    · rename_i hc
      exact ⟨w, t, rfl, hc, h⟩
    · cases h
  · cases h
theorem sm_re_inv {zr : Bool} {a : Int32} {k : Option ρ} (h : sm_re st zr a k = some v) : st = [] ∧ (zr = true → a = 0 ∨ a = 1) ∧ k = some v := by
  unfold sm_re at h
  split at h
  · obtain ⟨h1, h2⟩ := sm_bo_inv h
    exact ⟨rfl, fun _ => h1, h2⟩
  · exact ⟨rfl, fun q => (by cases q), h⟩
  · cases h
theorem sm_lo_inv {ls : List Value} {i : Nat} {k : Value → Option ρ} (h : sm_lo ls i k = some v) : (∃ a : Int32, ls[i]? = some (.int a) ∧ k (.int a) = some v) ∨ ∃ p : Nat, ls[i]? = some (.ref (p + 1)) ∧ k (.ref (p + 1)) = some v := by
  unfold sm_lo at h
  split at h
  · rename_i a he
    exact Or.inl ⟨a, he, h⟩
  · rename_i p he
    exact Or.inr ⟨p, he, h⟩
  · cases h
theorem sm_at_inv {p : Nat} {c : sm_Sh} (h : sm_at sh p = some c) : ∃ i, p = i + 1 ∧ sh[i]? = some c := by
  unfold sm_at at h
  split at h
  · cases h
  · exact ⟨_, rfl, h⟩
theorem sm_sa_inv {p : Nat} {vs : List Nat} : ∀ {sa : sm_Sa}, sm_sa sa p = some vs → ∃ q ∈ sa, q.1 = p ∧ q.2.2 = vs
  | [], h => by cases h
  | q :: r, h => by
    unfold sm_sa at h
    split at h
    · rename_i he
      cases h
      exact ⟨q, List.mem_cons_self, he, rfl⟩
    · obtain ⟨q', h1, h2⟩ := sm_sa_inv h
      exact ⟨q', List.mem_cons_of_mem _ h1, h2⟩
theorem sm_ald_inv {k : Int32 → List Value → Option ρ} (h : sm_ald sh sa st M k = some v) : ∃ (i : Int32) (p : Nat) (t : List Value), st = .int i :: .ref p :: t ∧
    ((∃ (j n : Nat) (fs : List (Nat × Nat)), p = j + 1 ∧ sh[j]? = some (0, n, fs) ∧ vp_in i n ∧ k (M p i.toNatClampNeg) t = some v) ∨
      ∃ vs : List Nat, (∃ q ∈ sa, q.1 = p ∧ q.2.2 = vs) ∧ vp_in i vs.length ∧ k (sm_tab vs i.toNatClampNeg) t = some v) := by
  unfold sm_ald at h
  split at h
  · rename_i i p t
    refine ⟨i, p, t, rfl, ?_⟩
    split at h
    · rename_i n fs he
      obtain ⟨h1, h2⟩ := sm_ck_inv h
      obtain ⟨j, e1, e2⟩ := sm_at_inv he
      exact Or.inl ⟨j, n, fs, e1, e2, h1, h2⟩
    · cases h
    · split at h
      · rename_i vs he
        obtain ⟨h1, h2⟩ := sm_ck_inv h
        exact Or.inr ⟨vs, sm_sa_inv he, h1, h2⟩
      · cases h
  · cases h
theorem sm_zld_inv {k : Int32 → List Value → Option ρ} (h : sm_zld sh st M k = some v) : ∃ (i : Int32) (j n : Nat) (fs : List (Nat × Nat)) (t : List Value), st = .int i :: .ref (j + 1) :: t ∧ sh[j]? = some (1, n, fs) ∧ vp_in i n ∧ k (M (j + 1) i.toNatClampNeg) t = some v := by
  unfold sm_zld at h
  split at h
  · rename_i i p t
    split at h
    · rename_i n fs he
      obtain ⟨h1, h2⟩ := sm_ck_inv h
      obtain ⟨j, rfl, e2⟩ := sm_at_inv he
      exact ⟨i, j, n, fs, t, rfl, e2, h1, h2⟩
    · cases h
  · cases h
theorem sm_ast_inv {k : List Value → sm_M → Option ρ} (h : sm_ast sh st M k = some v) : ∃ (x i : Int32) (j n : Nat) (fs : List (Nat × Nat)) (t : List Value), st = .int x :: .int i :: .ref (j + 1) :: t ∧ sh[j]? = some (0, n, fs) ∧ vp_in i n ∧ k t (sm_up M (j + 1) i.toNatClampNeg x) = some v := by
  unfold sm_ast at h
  split at h
  · rename_i x i p t
    split at h
    · rename_i n fs he
      obtain ⟨h1, h2⟩ := sm_ck_inv h
      obtain ⟨j, rfl, e2⟩ := sm_at_inv he
      exact ⟨x, i, j, n, fs, t, rfl, e2, h1, h2⟩
    · cases h
  · cases h
theorem sm_zst_inv {k : List Value → sm_M → Option ρ} (h : sm_zst sh st M k = some v) : ∃ (x i : Int32) (j n : Nat) (fs : List (Nat × Nat)) (t : List Value), st = .int x :: .int i :: .ref (j + 1) :: t ∧ sh[j]? = some (1, n, fs) ∧ vp_in i n ∧ (x = 0 ∨ x = 1) ∧ k t (sm_up M (j + 1) i.toNatClampNeg x) = some v := by
  unfold sm_zst at h
  split at h
  · rename_i x i p t
    split at h
    · rename_i n fs he
      obtain ⟨h1, h2⟩ := sm_ck_inv h
      obtain ⟨h4, h3⟩ := sm_bo_inv h2
      obtain ⟨j, rfl, e2⟩ := sm_at_inv he
      exact ⟨x, i, j, n, fs, t, rfl, e2, h1, h4, h3⟩
    · cases h
  · cases h
theorem sm_aln_inv {k : Int32 → List Value → Option ρ} (h : sm_aln sh st k = some v) : ∃ (j n : Nat) (fs : List (Nat × Nat)) (t : List Value), st = .ref (j + 1) :: t ∧ sh[j]? = some (0, n, fs) ∧ k (nI n) t = some v := by
  unfold sm_aln at h
  split at h
  · rename_i p t
    split at h
    · rename_i n fs he
      obtain ⟨j, rfl, e2⟩ := sm_at_inv he
      exact ⟨j, n, fs, t, rfl, e2, h⟩
    · cases h
  · cases h
theorem sm_get_inv {ci fk : Nat} {k : Value → List Value → Option ρ} (h : sm_get sh ci fk st D M k = some v) : ∃ (j : Nat) (fs : List (Nat × Nat)) (t : List Value) (a b : Nat) (x : Value), st = .ref (j + 1) :: t ∧ sh[j]? = some (2, ci, fs) ∧ fs[fk]? = some (a, b) ∧ k x t = some v ∧ ∀ ad : Nat → Nat, sm_fv ad D (M (j + 1)) fk (a, b) = sm_cz ad x := by
  unfold sm_get at h
  split at h
  · rename_i p t
    split at h
    · rename_i c fs he
      obtain ⟨j, rfl, e2⟩ := sm_at_inv he
      split at h
      · rename_i hc
        have hc := Nat.eq_of_beq_eq_true hc
        subst hc
        split at h
        · rename_i b hk
          exact ⟨j, fs, t, _, _, _, rfl, e2, hk, h, fun ad => rfl⟩
        · rename_i b hk
          exact ⟨j, fs, t, _, _, _, rfl, e2, hk, h, fun ad => rfl⟩
        · rename_i q hk
          exact ⟨j, fs, t, _, _, _, rfl, e2, hk, h, fun ad => rfl⟩
        · rename_i j' hk
          split at h
          · rename_i q hq
            refine ⟨j, fs, t, _, _, _, rfl, e2, hk, h, fun ad => ?_⟩
            show sm_cz ad (.ref (D.getD j' 0)) = _
            rw [List.getD, hq]
            rfl
          · cases h
        · cases h
      · cases h
    · cases h
  · cases h
theorem sm_put_inv {ci fk : Nat} {k : List Value → sm_D → sm_M → Option ρ} (h : sm_put sh ci fk st D M k = some v) :
    (∃ (x : Int32) (j : Nat) (fs : List (Nat × Nat)) (t : List Value) (a b : Nat), st = .int x :: .ref (j + 1) :: t ∧ sh[j]? = some (2, ci, fs) ∧ fs[fk]? = some (a, b) ∧ (a = 0 ∨ (a = 3 ∧ (x = 0 ∨ x = 1))) ∧ k t D (sm_up M (j + 1) fk x) = some v) ∨
    ∃ (q j : Nat) (fs : List (Nat × Nat)) (t : List Value) (b : Nat), st = .ref q :: .ref (j + 1) :: t ∧ sh[j]? = some (2, ci, fs) ∧ fs[fk]? = some (2, b) ∧ b < D.length ∧ k t (D.set b q) M = some v := by
  unfold sm_put at h
  split at h
  · rename_i x p t
    split at h
    · rename_i c fs he
      obtain ⟨j, rfl, e2⟩ := sm_at_inv he
      split at h
      · rename_i hc
        have hc := Nat.eq_of_beq_eq_true hc
        subst hc
        split at h
        · rename_i b hk
          exact Or.inl ⟨x, j, fs, t, _, _, rfl, e2, hk, Or.inl rfl, h⟩
        · rename_i b hk
          obtain ⟨h1, h2⟩ := sm_bo_inv h
          exact Or.inl ⟨x, j, fs, t, _, _, rfl, e2, hk, Or.inr ⟨rfl, h1⟩, h2⟩
        · cases h
      · cases h
    · cases h
  · rename_i q p t
    split at h
    · rename_i c fs he
      obtain ⟨j, rfl, e2⟩ := sm_at_inv he
      split at h
      · rename_i hc
        have hc := Nat.eq_of_beq_eq_true hc
        subst hc
        split at h
        · rename_i j' hk
          split at h
          · rename_i q' hq
            exact Or.inr ⟨q, j, fs, t, _, rfl, e2, hk, (List.getElem?_eq_some_iff.mp hq).1, h⟩
          · cases h
        · cases h
      · cases h
    · cases h
  · cases h
theorem sm_bi_inv {c : Option sm_S} {k : Int32 → sm_D → sm_M → Option ρ} (h : sm_bi c k = some v) : ∃ (x : Int32) (D : sm_D) (M : sm_M), c = some (x, D, M) ∧ k x D M = some v := by
  unfold sm_bi at h
  split at h
  · exact ⟨_, _, _, rfl, h⟩
  · cases h
theorem sm_rcv_inv {ci : Nat} {as : List Value} (h : sm_rcv sh ci as = true) : ∃ (j : Nat) (fs : List (Nat × Nat)) (t : List Value), as = .ref (j + 1) :: t ∧ sh[j]? = some (2, ci, fs) := by
  unfold sm_rcv at h
  split at h
  · rename_i p t
    split at h
    · rename_i c fs he
      obtain ⟨j, rfl, e2⟩ := sm_at_inv he
      have hc := Nat.eq_of_beq_eq_true h
      subst hc
      exact ⟨j, fs, t, rfl, e2⟩
    · cases h
  · cases h
theorem sm_dq_inv {D E : sm_D} {k : Option ρ} (h : sm_dq D E k = some v) : D = E ∧ k = some v := by
  unfold sm_dq at h
  split at h
  · rename_i hc
    exact ⟨hc, h⟩
  · cases h
theorem sm_inv_inv {ok : List Value → Bool} {cal : sm_Cal} {x z w : Nat} {k : Int32 → List Value → sm_D → sm_M → Option ρ} (h : sm_inv ok cal x z w st D M k = some v) :
    ∃ (as rest : List Value) (a : Int32) (D' : sm_D) (M' : sm_M), st = as.reverse ++ rest ∧ as.length = z ∧ rest.length ≤ 8 ∧ (∀ w ∈ rest, sm_c1 w = true) ∧ ok as = true ∧ cal x as D M = some (a, D', M') ∧ k a rest D' M' = some v := by
  unfold sm_inv at h
  split at h
  · rename_i h1 h2 h3 h6
    obtain ⟨a, D', M', h4, h5⟩ := sm_bi_inv h
    obtain ⟨he, h5⟩ := sm_dq_inv h5
    rw [← he] at h5
    refine ⟨(st.take z).reverse, st.drop z, a, D', M', by simp, ?_, Nat.le_of_ble_eq_true h1, List.all_eq_true.mp h6, h2, h4, h5⟩
    have := Nat.le_of_ble_eq_true h3
    simp
    omega
  · cases h
theorem sm_cn_inv {cd : ClassFile.Cond} {a b : Int32} {t f : Option ρ} (h : sm_cn cd a b t f = some v) : t = some v ∨ f = some v := by
  unfold sm_cn at h
  split at h <;> split at h <;> first | exact Or.inl h | exact Or.inr h
end
