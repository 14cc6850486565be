/-! compile: what is said of code that is put back -/
section
variable {nB nC : Nat} {W : Nat → Ty} {A : Nat → Option Ty} {o a b c st le o' a' b' c' st' le' : Nat → Int32} {h i : Nat} {R R' : Nat → Option Ty}
theorem pI_c (k : Nat) : pI nB W A a b c h i R R' k ↔ pI nB W A (fun _ => a i) (fun _ => b i) (fun _ => c i) h i R R' k := by
  match k with
  | 0 => exact Iff.rfl
  | 1 => exact Iff.rfl
  | 2 => exact Iff.rfl
  | 3 => exact Iff.rfl
  | 4 => exact Iff.rfl
  | 5 => exact Iff.rfl
  | 6 => exact Iff.rfl
  | 7 => exact Iff.rfl
  | 8 => exact Iff.rfl
  | 9 => exact Iff.rfl
  | 10 => exact Iff.rfl
  | 11 => exact Iff.rfl
  | k + 12 => exact Iff.rfl
theorem pS_cg (hr : o' i = o i ∧ a' i = a i ∧ b' i = b i ∧ c' i = c i) : pS nB W A o a b c h i R R' ↔ pS nB W A o' a' b' c' h i R R' := by
  obtain ⟨h1, h2, h3, h4⟩ := hr
  have xo : xN o' i = xN o i := by unfold xN; rw [h1]
  unfold pS
  rw [xo]
  refine (pI_c _).trans (Iff.trans ?_ (pI_c _).symm)
  rw [h2, h3, h4]
theorem pK_cg {s l : Nat} (hs : s + l ≤ nC) (hr : ∀ i, i < nC → o' i = o i ∧ a' i = a i ∧ b' i = b i ∧ c' i = c i) : ∀ (n : Nat) (R : Nat → Option Ty) (v : Int32), n ≤ l → pK nB W A o a b c h s l n R v → pK nB W A o' a' b' c' h s l n R v
  | 0, R, v, _, hk => by
    have e : (0 < l ∧ pEn o (s + l - 1)) ↔ (0 < l ∧ pEn o' (s + l - 1)) := and_congr_right (fun hl => by unfold pEn; rw [(hr (s + l - 1) (by omega)).1])
    rcases hk with ⟨p, q, e1⟩ | ⟨p, e1⟩
    · have z := e.mp ⟨p, q⟩
      exact Or.inl ⟨z.1, z.2, e1⟩
    · exact Or.inr ⟨fun z => p (e.mpr z), e1⟩
  | n + 1, R, v, hn, hk => by
    have e : (0 < l - (n + 1) ∧ pEn o (s + (l - (n + 1)) - 1)) ↔ (0 < l - (n + 1) ∧ pEn o' (s + (l - (n + 1)) - 1)) := and_congr_right (fun hl => by unfold pEn; rw [(hr (s + (l - (n + 1)) - 1) (by omega)).1])
    have ps : ∀ R', pS nB W A o a b c h (s + (l - (n + 1))) R R' ↔ pS nB W A o' a' b' c' h (s + (l - (n + 1))) R R' := fun R' => pS_cg (hr _ (by omega))
    rcases hk with ⟨p, e1⟩ | ⟨p, hk⟩
    · exact Or.inl ⟨e.mp p, e1⟩
    · refine Or.inr ⟨fun z => p (e.mpr z), ?_⟩
      rcases hk with ⟨R', k1, k2⟩ | ⟨k1, k2⟩
      · exact Or.inl ⟨R', (ps R').mp k1, pK_cg hs hr n R' v (by omega) k2⟩
      · exact Or.inr ⟨fun R' z => k1 R' ((ps R').mpr z), k2⟩
theorem pD_cg (hC : nC ≤ 300) (hB : ∀ b, b < nB → ∃ s l : Nat, s + l ≤ nC ∧ st b = nI s ∧ le b = nI l) (hr : ∀ i, i < nC → o' i = o i ∧ a' i = a i ∧ b' i = b i ∧ c' i = c i) (hs : ∀ b, b < nB → st' b = st b ∧ le' b = le b) : ∀ (n : Nat) (v : Int32), n ≤ nB → pD nB W A o a b c st le h n v → pD nB W A o' a' b' c' st' le' h n v
  | 0, v, _, hk => hk
  | n + 1, v, hn, hk => by
    obtain ⟨w, k1, h1⟩ := hk
    have hb : nB - (n + 1) < nB := by omega
    obtain ⟨s, l, q0, q1, q2⟩ := hB _ hb
    obtain ⟨e1, e2⟩ := hs _ hb
    have xs : xN st' (nB - (n + 1)) = xN st (nB - (n + 1)) := by unfold xN; rw [e1]
    have xl : xN le' (nB - (n + 1)) = xN le (nB - (n + 1)) := by unfold xN; rw [e2]
    have vs : xN st (nB - (n + 1)) = s := by unfold xN; rw [q1]; exact nI_clamp (by omega)
    have vl : xN le (nB - (n + 1)) = l := by unfold xN; rw [q2]; exact nI_clamp (by omega)
    refine ⟨w, ?_, ?_⟩
    · rw [xs, xl]
      exact pK_cg (by rw [vs, vl]; exact q0) hr _ _ _ (Nat.le_refl _) k1
    · rcases h1 with ⟨p, h1⟩ | h1
      · exact Or.inl ⟨p, pD_cg hC hB hr hs n v (by omega) h1⟩
      · exact Or.inr h1
theorem pVV_cg (hC : nC ≤ 300) (hB : ∀ b, b < nB → ∃ s l : Nat, s + l ≤ nC ∧ st b = nI s ∧ le b = nI l) (hr : ∀ i, i < nC → o' i = o i ∧ a' i = a i ∧ b' i = b i ∧ c' i = c i) (hs : ∀ b, b < nB → st' b = st b ∧ le' b = le b) {v : Int32} (hv : pVV nB W A o a b c st le v) : pVV nB W A o' a' b' c' st' le' v := by
  obtain ⟨H, hv⟩ := hv
  refine ⟨H, fun h hh => ?_⟩
  rcases hv h hh with ⟨p, e⟩ | ⟨p, e⟩
  · exact Or.inl ⟨p, e⟩
  · exact Or.inr ⟨p, pD_cg hC hB hr hs nB v (Nat.le_refl _) e⟩
end
section
variable {p d1 d3 d4 nB nC n : Nat} {L LM : List Ty} {W : Nat → Ty} {A : Nat → Option Ty} {Mc Mm N Mc' Mm' : sm_M}
theorem rlC.o2 (h : rlC pVV p L LM nC nB W A Mc Mm) (hc : ∀ q, p ≤ q → q ≤ p + 9 → Mc' q = Mc q) (r1 : ∀ j, j < 301 → Mm' 29 j = Mm 29 j ∧ Mm' 30 j = Mm 30 j ∧ Mm' 31 j = Mm 31 j ∧ Mm' 32 j = Mm 32 j) (r2 : ∀ j, j < 41 → Mm' 33 j = Mm 33 j ∧ Mm' 34 j = Mm 34 j) (r3 : ∀ j, j < 123 → Mm' 35 j = Mm 35 j) (h37 : Mm' 1 37 = Mm 1 37) (h38 : Mm' 1 38 = Mm 1 38) (h39 : Mm' 1 39 = Mm 1 39) : rlC pVV p L LM nC nB W A Mc' Mm' := by
  have h' : rlC pVV p L LM nC nB W A Mc' Mm := h.o hc (fun _ _ _ => rfl) rfl rfl rfl
  obtain ⟨c1, c2, c3, c4, c5, c6, c7, c8, c9, c10, c11⟩ := h'
  refine ⟨c1, c2, c3, h39.trans c4, c5, h38.trans c6, h37.trans c7, fun i hi => ?_, fun b hb => ?_, fun k hk => ?_, ?_⟩
  · obtain ⟨e1, e2, e3, e4⟩ := r1 i (by omega)
    rw [e1, e2, e3, e4]
    exact c8 i hi
  · obtain ⟨e1, e2⟩ := r2 b (by omega)
    rw [e1, e2]
    exact c9 b hb
  · rw [r3 k (by omega)]
    exact c10 k hk
  · rcases c11 with ⟨f1, f2, f3, f4⟩ | ⟨f1, f2⟩
    · exact Or.inl ⟨f1, fun i hi q => f2 i hi ((r1 i (by omega)).1.symm.trans q), f3, f4⟩
    · refine Or.inr ⟨f1, pVV_cg c1 (fun b hb => ?_) (fun i hi => r1 i (by omega)) (fun b hb => r2 b (by omega)) f2⟩
      obtain ⟨s, l, q0, -, q2, -, q4⟩ := c9 b hb
      exact ⟨s, l, q0, q2, q4⟩
theorem rlM.o2 (hB : nB ≤ 40) (h : rlM nB Mc Mm) (hc : ∀ q, 33 ≤ q → q ≤ 39 → Mc' q = Mc q) (r2 : ∀ j, j < 41 → Mm' 33 j = Mm 33 j ∧ Mm' 34 j = Mm 34 j) (hm : ∀ q, 47 ≤ q → q ≤ 52 → Mm' q = Mm q) (h1 : ∀ j, 66 ≤ j → j ≤ 69 → Mm' 1 j = Mm 1 j) : rlM nB Mc' Mm' := by
  have h' : rlM nB Mc' Mm := h.o hc (fun _ _ => rfl) (fun _ _ _ => rfl)
  unfold rlM at h' ⊢
  rw [hm 47 (by decide) (by decide), hm 48 (by decide) (by decide), hm 49 (by decide) (by decide), hm 50 (by decide) (by decide), hm 51 (by decide) (by decide), hm 52 (by decide) (by decide), h1 66 (by decide) (by decide), h1 67 (by decide) (by decide), h1 68 (by decide) (by decide), h1 69 (by decide) (by decide)]
  obtain ⟨b1, nP, b2, b3, b4, b5, b6, b7⟩ := h'
  refine ⟨b1, nP, b2, b3, b4, b5, b6, fun q => ?_⟩
  rcases b7 q with z | ⟨b, k, s, l, z1, z2, z3, z4, z5, z6⟩
  · exact Or.inl z
  · obtain ⟨e1, e2⟩ := r2 b (by omega)
    exact Or.inr ⟨b, k, s, l, z1, z2, z3, e1.trans z4, e2.trans z5, z6⟩
/-- code that did not fit: all is as it was -/
theorem rl_back (hp : (p = 40 ∧ d1 = 50) ∨ (p = 50 ∧ d1 = 40)) (h : rl pVV p L LM nC nB W A Mc Mm) (hc : tabC Mc' L) (hco : ∀ q, 8 < q → (q < 24 ∨ 30 < q) → (q < d1 ∨ d1 + 9 < q) → Mc' q = Mc q) (h25 : Mc' 25 0 = 0) (hm : tabM N LM) (hG : ∀ q, (7 ≤ q ∧ q ≤ 28) ∨ (46 < q ∧ q < 54) → N q = Mm q) (r1 : ∀ j, j < 301 → N 29 j = Mm 29 j ∧ N 30 j = Mm 30 j ∧ N 31 j = Mm 31 j ∧ N 32 j = Mm 32 j) (r2 : ∀ j, j < 41 → N 33 j = Mm 33 j ∧ N 34 j = Mm 34 j) (r3 : ∀ j, j < 123 → N 35 j = Mm 35 j) (h1 : ∀ j, j ≠ 1 → (j < 47 ∨ 54 < j) → N 1 j = Mm 1 j) : rl pVV p L LM nC nB W A Mc' N := by
  obtain ⟨⟨a1, a2, a3, a4, a5, a6, a7, a8, a9, a10⟩, x2, x3, x4, x5⟩ := h
  have hB := x4.2.1
  refine ⟨⟨hc, a2, a3, a4, hm, a6, a7, by rw [h1 7 (by decide) (by decide)]; exact a8, by rw [hG 7 (by decide)]; exact a9, fun i hi => ?_⟩, x2.o (fun q a b => hco q (by omega) (by omega) (by omega)) (fun q a b => hG q (by omega)) (h1 13 (by decide) (by decide)), ?_, x4.o2 (fun q a b => hco q (by omega) (by omega) (by omega)) r1 r2 r3 (h1 37 (by decide) (by decide)) (h1 38 (by decide) (by decide)) (h1 39 (by decide) (by decide)), x5.o2 hB (fun q a b => hco q (by omega) (by omega) (by omega)) r2 (fun q a b => hG q (by omega)) (fun j a b => h1 j (by omega) (by omega))⟩
  · have hg : L[i]? = some L[i] := List.getElem?_eq_getElem hi
    obtain ⟨m, o1, o2, o3, et⟩ := tyok_mk (a4 _ (List.mem_of_getElem? hg)).1
    rw [et] at hg
    obtain ⟨e2, e3, e4, e5⟩ := tab_same (K := []) a1 (by rw [List.append_nil]; exact hc) hg
    rw [e2, e3, e4, e5, hG 8 (by decide), hG 9 (by decide), hG 10 (by decide), hG 11 (by decide)]
    exact a10 i hi
  · rw [h1 29 (by decide) (by decide), hco 18 (by decide) (by decide) (by omega)]
    exact ⟨x3.1, h25⟩
end
