/-! the relation between the class's memory and the reference's -/
def reg5 (x : Int32) : Prop := ∃ k : Nat, 1 ≤ k ∧ k ≤ 5 ∧ x = nI k
def blk40 (x : Int32) : Prop := ∃ k : Nat, k < 40 ∧ x = nI k
/-- what an instruction may be like -/
def frm (o a b c : Int32) : Prop := (o = 0 ∧ reg5 a) ∨ ((o = 1 ∨ o = 2 ∨ o = 3 ∨ o = 4 ∨ o = 8) ∧ reg5 a ∧ reg5 b ∧ reg5 c) ∨ (o = 5 ∧ reg5 a ∧ reg5 b ∧ (c = 0 ∨ c = 1)) ∨ (o = 6 ∧ reg5 a ∧ blk40 b) ∨ (o = 7 ∧ reg5 a ∧ reg5 b) ∨ (o = 9 ∧ blk40 a) ∨ (o = 10 ∧ reg5 a ∧ blk40 b) ∨ (o = 11 ∧ reg5 a) ∨ o = 12
/-- what a register or a part of a pair may hold where n pairs are made -/
def okv (n : Nat) (k v : Int32) : Prop := (k = 3 ∨ k = 4 → ∃ j : Nat, j < n ∧ v = nI j) ∧ (k = 2 → blk40 v)
def tyF (a b : Ty) : Ty := ty_mk 2 (some a) (some b) none
def tyP (a b : Ty) : Ty := ty_mk 1 (some a) (some b) none
def tyR (a : Ty) : Ty := ty_mk 3 (some a) none none
/-- a type that a user may have made -/
def tyok (t : Ty) : Prop := t = tyN ∨ (∃ a b, t = tyP a b) ∨ (∃ a b, t = tyF a b) ∨ (∃ a, t = tyR a) ∨ ∃ o1 o2 o3, t = ty_mk 4 o1 o2 o3
/-- the types -/
def rlT (L LM : List Ty) (Mc Mm : sm_M) : Prop := tabC Mc L ∧ L.length ≤ 30 ∧ L[0]? = some tyN ∧ (∀ t ∈ L, tyok t ∧ ty_sz t ≤ 30) ∧ tabM Mm LM ∧ LM.length ≤ L.length + 1500 ∧ LM[0]? = some tyN ∧ Mm 1 7 = nI L.length ∧ (∀ (i : Nat) (t : Ty), L[i]? = some t → ∃ r, LM[r]? = some t ∧ Mm 7 i = nI r) ∧ ∀ i, i < L.length → Mm 8 i = Mc 2 i ∧ Mm 9 i = Mc 3 i ∧ Mm 10 i = Mc 4 i ∧ Mm 11 i = Mc 5 i
def tPn (k : Nat) : Nat := [0, 0, 2, 2, 2, 3, 1, 2, 2, 1, 1].getD k 0
/-- x names a part of i, less high than h -/
def exP (M : sm_M) (i h : Nat) (x : Int32) : Prop := ∃ e g : Nat, e < i ∧ x = nI e ∧ M 15 e = nI g ∧ g < h
def exI (L : List Ty) (M : sm_M) (i : Nat) : Prop := ∃ k h : Nat, k ≤ 10 ∧ M 10 i = nI k ∧ 1 ≤ h ∧ h ≤ 8 ∧ M 15 i = nI h ∧ (0 < tPn k → exP M i h (M 12 i)) ∧ (1 < tPn k → exP M i h (M 13 i)) ∧ (2 < tPn k → exP M i h (M 14 i)) ∧ (k = 1 → ∃ v : Nat, v ≤ 20 ∧ M 11 i = nI v) ∧ (k = 6 → ∃ (t : Nat) (a b : Ty), M 11 i = nI t ∧ L[t]? = some (tyF a b))
/-- the expressions -/
def rlE (L : List Ty) (Mc Mm : sm_M) : Prop := ∃ n : Nat, n ≤ 40 ∧ Mc 9 6 = nI n ∧ Mm 1 13 = nI n ∧ (∀ i, i < n → Mm 12 i = Mc 10 i ∧ Mm 13 i = Mc 11 i ∧ Mm 14 i = Mc 12 i ∧ Mm 15 i = Mc 13 i ∧ Mm 16 i = Mc 14 i ∧ Mm 17 i = Mc 15 i) ∧ ∀ i, i < n → exI L Mc i
/-- what may be said of compiled code's verdict -/
abbrev pVt : Type := Nat → (Nat → Ty) → (Nat → Option Ty) → (Nat → Int32) → (Nat → Int32) → (Nat → Int32) → (Nat → Int32) → (Nat → Int32) → (Nat → Int32) → Int32 → Prop
/-- a function or a return -/
def wOk (t : Ty) : Prop := (∃ a b, t = tyF a b) ∨ ∃ a, t = tyR a
/-- the code at p; W: the types that WRAPs name, A: the types that blocks ask -/
def rlC (pV : pVt) (p : Nat) (L LM : List Ty) (nC nB : Nat) (W : Nat → Ty) (A : Nat → Option Ty) (Mc Mm : sm_M) : Prop := nC ≤ 300 ∧ nB ≤ 40 ∧ Mc p 6 = nI nC ∧ Mm 1 39 = nI nC ∧ Mc p 11 = nI nB ∧ Mm 1 38 = nI nB ∧ Mm 1 37 = Mc p 13 ∧
  (∀ i, i < nC → Mc (p + 1) i = Mm 29 i ∧ Mc (p + 2) i = Mm 30 i ∧ Mc (p + 3) i = Mm 31 i ∧ frm (Mm 29 i) (Mm 30 i) (Mm 31 i) (Mm 32 i) ∧ (Mm 29 i ≠ 7 → Mc (p + 4) i = Mm 32 i ∧ Mc (p + 5) i = Mm 32 i) ∧ (Mm 29 i = 7 → ty_pr LM (Mm 32 i) (some (W i)) ∧ Mc (p + 5) i = nI (ty_sz (W i)) ∧ wOk (W i))) ∧
  (∀ b, b < nB → ∃ s l : Nat, s + l ≤ nC ∧ Mc (p + 6) b = nI s ∧ Mm 33 b = nI s ∧ Mc (p + 7) b = nI l ∧ Mm 34 b = nI l) ∧
  (∀ k, k < 3 * nB → ty_pr LM (Mm 35 k) (A k) ∧ Mc (p + 9) k = nI (ty_so (A k))) ∧
  ((Mc p 13 = 0 ∧ (∀ i, i < nC → Mm 29 i = 7 → ty_pr L (Mc (p + 4) i) (some (W i))) ∧ (∀ k, k < 3 * nB → ty_pr L (Mc (p + 8) k) (A k)) ∧ (0 < nB → Mc p 12 = nI (nB - 1) ∧ Mc (p + 6) (nB - 1) + Mc (p + 7) (nB - 1) = nI nC)) ∨ (Mc p 13 = 1 ∧ pV nB W A (Mm 29) (Mm 30) (Mm 31) (Mm 32) (Mm 33) (Mm 34) (Mc p 14)))
/-- the machine; nB blocks -/
def rlM (nB : Nat) (Mc Mm : sm_M) : Prop := Mm 1 66 = Mc 33 10 ∧ ∃ nP : Nat, nP ≤ 400 ∧ Mc 33 6 = nI nP ∧ Mm 1 69 = nI nP ∧ (∀ r, 1 ≤ r → r ≤ 5 → Mc 34 r = Mm 47 r ∧ Mc 35 r = Mm 48 r ∧ okv nP (Mm 47 r) (Mm 48 r)) ∧ (∀ j, j < nP → Mc 36 j = Mm 49 j ∧ Mc 37 j = Mm 50 j ∧ Mc 38 j = Mm 51 j ∧ Mc 39 j = Mm 52 j ∧ okv nP (Mm 49 j) (Mm 50 j) ∧ okv nP (Mm 51 j) (Mm 52 j)) ∧
  (Mc 33 10 = 0 → (Mm 1 68 = -1 ∧ Mm 1 67 = 0 ∧ Mc 33 8 = 0 ∧ Mc 33 9 = 0) ∨ ∃ b k s l : Nat, b < nB ∧ k ≤ l ∧ s + l ≤ 300 ∧ Mm 33 b = nI s ∧ Mm 34 b = nI l ∧ Mc 33 8 = nI b ∧ Mc 33 9 = nI k ∧ Mm 1 67 = nI (s + k) ∧ Mm 1 68 = nI (s + l))
theorem rlT.o {L LM : List Ty} {Mc Mm Mc' Mm' : sm_M} (h : rlT L LM Mc Mm) (hc : ∀ q, q ≤ 8 → Mc' q = Mc q) (hm : ∀ q, 2 ≤ q → q ≤ 11 → Mm' q = Mm q) (h1 : Mm' 1 1 = Mm 1 1) (h7 : Mm' 1 7 = Mm 1 7) : rlT L LM Mc' Mm' := by
  obtain ⟨a1, a2, a3, a4, a5, a6, a7, a8, a9, a10⟩ := h
  refine ⟨tabC_o hc a1, a2, a3, a4, tabM_o (fun q h2 h6 => hm q h2 (by omega)) h1 a5, a6, a7, h7.trans a8, ?_, ?_⟩
  · rw [hm 7 (by decide) (by decide)]; exact a9
  · rw [hm 8 (by decide) (by decide), hm 9 (by decide) (by decide), hm 10 (by decide) (by decide), hm 11 (by decide) (by decide), hc 2 (by decide), hc 3 (by decide), hc 4 (by decide), hc 5 (by decide)]; exact a10
theorem exI.o {L : List Ty} {M M' : sm_M} {i : Nat} (h : exI L M i) (hc : ∀ q, 10 ≤ q → q ≤ 15 → M' q = M q) : exI L M' i := by
  unfold exI exP at h ⊢
  rw [hc 10 (by decide) (by decide), hc 11 (by decide) (by decide), hc 12 (by decide) (by decide), hc 13 (by decide) (by decide), hc 14 (by decide) (by decide), hc 15 (by decide) (by decide)]
  exact h
theorem rlE.o {L : List Ty} {Mc Mm Mc' Mm' : sm_M} (h : rlE L Mc Mm) (hc : ∀ q, 9 ≤ q → q ≤ 15 → Mc' q = Mc q) (hm : ∀ q, 12 ≤ q → q ≤ 17 → Mm' q = Mm q) (h13 : Mm' 1 13 = Mm 1 13) : rlE L Mc' Mm' := by
  obtain ⟨n, a1, a2, a3, a4, a5⟩ := h
  refine ⟨n, a1, by rw [hc 9 (by decide) (by decide)]; exact a2, h13.trans a3, ?_, fun i hi => (a5 i hi).o (fun q h1 h2 => hc q (by omega) h2)⟩
  rw [hm 12 (by decide) (by decide), hm 13 (by decide) (by decide), hm 14 (by decide) (by decide), hm 15 (by decide) (by decide), hm 16 (by decide) (by decide), hm 17 (by decide) (by decide), hc 10 (by decide) (by decide), hc 11 (by decide) (by decide), hc 12 (by decide) (by decide), hc 13 (by decide) (by decide), hc 14 (by decide) (by decide), hc 15 (by decide) (by decide)]
  exact a4
theorem rlC.o {pV : pVt} {p : Nat} {L LM : List Ty} {nC nB : Nat} {W : Nat → Ty} {A : Nat → Option Ty} {Mc Mm Mc' Mm' : sm_M} (h : rlC pV p L LM nC nB W A Mc Mm) (hc : ∀ q, p ≤ q → q ≤ p + 9 → Mc' q = Mc q) (hm : ∀ q, 29 ≤ q → q ≤ 35 → Mm' q = Mm q) (h37 : Mm' 1 37 = Mm 1 37) (h38 : Mm' 1 38 = Mm 1 38) (h39 : Mm' 1 39 = Mm 1 39) : rlC pV p L LM nC nB W A Mc' Mm' := by
  unfold rlC at h ⊢
  rw [h37, h38, h39, hm 29 (by decide) (by decide), hm 30 (by decide) (by decide), hm 31 (by decide) (by decide), hm 32 (by decide) (by decide), hm 33 (by decide) (by decide), hm 34 (by decide) (by decide), hm 35 (by decide) (by decide), hc p (by omega) (by omega), hc (p + 1) (by omega) (by omega), hc (p + 2) (by omega) (by omega), hc (p + 3) (by omega) (by omega), hc (p + 4) (by omega) (by omega), hc (p + 5) (by omega) (by omega), hc (p + 6) (by omega) (by omega), hc (p + 7) (by omega) (by omega), hc (p + 8) (by omega) (by omega), hc (p + 9) (by omega) (by omega)]
  exact h
theorem rlM.o {nB : Nat} {Mc Mm Mc' Mm' : sm_M} (h : rlM nB Mc Mm) (hc : ∀ q, 33 ≤ q → q ≤ 39 → Mc' q = Mc q) (hm : ∀ q, q = 33 ∨ q = 34 ∨ (47 ≤ q ∧ q ≤ 52) → Mm' q = Mm q) (h1 : ∀ j, 66 ≤ j → j ≤ 69 → Mm' 1 j = Mm 1 j) : rlM nB Mc' Mm' := by
  unfold rlM at h ⊢
  rw [hc 33 (by decide) (by decide), hc 34 (by decide) (by decide), hc 35 (by decide) (by decide), hc 36 (by decide) (by decide), hc 37 (by decide) (by decide), hc 38 (by decide) (by decide), hc 39 (by decide) (by decide), hm 33 (by decide), hm 34 (by decide), hm 47 (by decide), hm 48 (by decide), hm 49 (by decide), hm 50 (by decide), hm 51 (by decide), hm 52 (by decide), h1 66 (by decide) (by decide), h1 67 (by decide) (by decide), h1 68 (by decide) (by decide), h1 69 (by decide) (by decide)]
  exact h
/-- everything but the code that D names -/
def rl (pV : pVt) (p : Nat) (L LM : List Ty) (nC nB : Nat) (W : Nat → Ty) (A : Nat → Option Ty) (Mc Mm : sm_M) : Prop := rlT L LM Mc Mm ∧ rlE L Mc Mm ∧ (Mm 1 29 = Mc 18 8 ∧ Mc 25 0 = 0) ∧ rlC pV p L LM nC nB W A Mc Mm ∧ rlM nB Mc Mm
def Rl (pV : pVt) (D : sm_D) (Mc Mm : sm_M) : Prop := ∃ (d0 d1 d3 d4 : Nat) (L LM : List Ty) (nC nB : Nat) (W : Nat → Ty) (A : Nat → Option Ty), D = [d0, d1, d0, d3, d4] ∧ ((d0 = 40 ∧ d1 = 50) ∨ (d0 = 50 ∧ d1 = 40)) ∧ rl pV d0 L LM nC nB W A Mc Mm
section
variable {pV : pVt} {p : Nat} {L LM : List Ty} {nC nB : Nat} {W : Nat → Ty} {A : Nat → Option Ty} {Mc Mm N : sm_M} {D : sm_D}
theorem rl.up0 {v : Int32} (h : rl pV p L LM nC nB W A Mc Mm) : rl pV p L LM nC nB W A Mc (sm_up Mm 1 0 v) := by
  obtain ⟨h1, h2, h3, h4, h5⟩ := h
  have e : ∀ j, j ≠ 0 → sm_up Mm 1 0 v 1 j = Mm 1 j := fun j hj => up_as hj
  have o : ∀ q, q ≠ 1 → sm_up Mm 1 0 v q = Mm q := fun q hq => up_ne hq
  exact ⟨h1.o (fun _ _ => rfl) (fun q h1 h2 => o q (by omega)) (e 1 (by decide)) (e 7 (by decide)), h2.o (fun _ _ _ => rfl) (fun q h1 h2 => o q (by omega)) (e 13 (by decide)), ⟨(e 29 (by decide)).trans h3.1, h3.2⟩, h4.o (fun _ _ _ => rfl) (fun q h1 h2 => o q (by omega)) (e 37 (by decide)) (e 38 (by decide)) (e 39 (by decide)), h5.o (fun _ _ _ => rfl) (fun q h => o q (by omega)) (fun j h1 h2 => e j (by omega))⟩
theorem Rl.mk {d1 d3 d4 : Nat} (hp : (p = 40 ∧ d1 = 50) ∨ (p = 50 ∧ d1 = 40)) (h : rl pV p L LM nC nB W A Mc Mm) : Rl pV [p, d1, p, d3, d4] Mc Mm := ⟨p, d1, d3, d4, L, LM, nC, nB, W, A, rfl, hp, h⟩
theorem in_gC {d1 : Nat} (hp : (p = 40 ∧ d1 = 50) ∨ (p = 50 ∧ d1 = 40)) : [p] ∈ gC := by rcases hp with ⟨rfl, -⟩ | ⟨rfl, -⟩ <;> decide
theorem q_steps {d1 d3 d4 : Nat} (hp : (p = 40 ∧ d1 = 50) ∨ (p = 50 ∧ d1 = 40)) (h : rl pV p L LM nC nB W A Mc Mm) : lc_two (jA_steps [p, d1, p, d3, d4] Mc) (jR_steps [] Mm) (Rl pV) := by
  have h' := h.up0 (v := 0)
  refine ⟨Mc 18 8, [p, d1, p, d3, d4], Mc, sm_up Mm 1 0 0, rfl, ?_, Rl.mk hp h'⟩
  simp only [jR_steps, sm_wr]
  rw [h'.2.2.1.1]
theorem q_state {d1 d3 d4 : Nat} (hp : (p = 40 ∧ d1 = 50) ∨ (p = 50 ∧ d1 = 40)) (h : rl pV p L LM nC nB W A Mc Mm) : lc_two (jA_state [p, d1, p, d3, d4] Mc) (jR_state [] Mm) (Rl pV) := by
  have h' := h.up0 (v := 0)
  refine ⟨Mc 33 10, [p, d1, p, d3, d4], Mc, sm_up Mm 1 0 0, rfl, ?_, Rl.mk hp h'⟩
  simp only [jR_state, sm_wr]
  rw [h'.2.2.2.2.1]
/-- a number that the class has, the reference has made; and the other way round -/
theorem r_made (h : rlT L LM Mc Mm) {x : Int32} : (∃ (i : Nat) (t : Ty), L[i]? = some t ∧ x = nI i ∧ jT_has x D Mc = some (1, D, Mc) ∧ ∀ {E : sm_D}, jR_isMade x E Mm = some (1, E, Mm)) ∨ (jT_has x D Mc = some (0, D, Mc) ∧ ∀ {E : sm_D}, jR_isMade x E Mm = some (0, E, Mm)) := by
  obtain ⟨a1, a2, a3, a4, a5, a6, a7, a8, a9, a10⟩ := h
  rcases j_has (D := D) a1 x with ⟨i, t, hi, rfl, hh⟩ | ⟨hx, hh⟩
  · refine Or.inl ⟨i, t, hi, rfl, hh, fun {E} => ?_⟩
    have hl := (List.getElem?_eq_some_iff.mp hi).1
    unfold jR_isMade
    rw [if_neg (nI_pos (by omega)), a8, if_pos (nI_lt hl (by omega))]
    rfl
  · refine Or.inr ⟨hh, fun {E} => ?_⟩
    unfold jR_isMade
    by_cases h0 : x < 0
    · rw [if_pos h0]; rfl
    · rw [if_neg h0, a8, if_neg (Int32.not_lt.mpr (hx.resolve_left h0))]; rfl
/-- the reference's number of a kept type -/
theorem r_numI (h : rlT L LM Mc Mm) {i : Nat} {t : Ty} (hi : L[i]? = some t) : ∃ r, LM[r]? = some t ∧ Mm 7 i = nI r ∧ r < 3000 ∧ i < 30 := by
  obtain ⟨a1, a2, a3, a4, a5, a6, a7, a8, a9, a10⟩ := h
  obtain ⟨r, h1, h2⟩ := a9 i t hi
  have h3 := (List.getElem?_eq_some_iff.mp h1).1
  have h4 := (List.getElem?_eq_some_iff.mp hi).1
  exact ⟨r, h1, h2, by omega, by omega⟩
theorem q_size {d1 d3 d4 : Nat} (hp : (p = 40 ∧ d1 = 50) ∨ (p = 50 ∧ d1 = 40)) (h : rl pV p L LM nC nB W A Mc Mm) {a : Int32} : lc_two (jA_size a [p, d1, p, d3, d4] Mc) (jR_size a [] Mm) (Rl pV) := by
  have h' := h.up0 (v := 0)
  simp only [jR_size, sm_wr]
  generalize sm_up Mm 1 0 0 = N at h' ⊢
  rcases r_made (D := [p, d1, p, d3, d4]) h'.1 (x := a) with ⟨i, t, hi, rfl, e1, e2⟩ | ⟨e1, e2⟩
  · obtain ⟨r, hr, h7, hr3, hi3⟩ := r_numI h'.1 hi
    refine ⟨nI (ty_so (some t)), [p, d1, p, d3, d4], Mc, N, ?_, ?_, Rl.mk hp h'⟩
    · unfold jA_size
      rw [e1, bi_some, dq_self, if_neg (by decide), j_sizeOf h'.1.1 (Or.inr ⟨i, t, rfl, hi, rfl⟩), bi_some, dq_self]
      rfl
    · rw [e2, bi_some, dq_self, if_neg (by decide), ck_nI hi3 (by decide), nI_clamp (by omega), h7, ck_nI hr3 (by decide), nI_clamp (by omega), (h'.1.2.2.2.2.1.2.2.2 r t hr).2]
      rfl
  · refine ⟨-1, [p, d1, p, d3, d4], Mc, N, ?_, ?_, Rl.mk hp h'⟩
    · unfold jA_size
      rw [e1, bi_some, dq_self, if_pos rfl]
      rfl
    · rw [e2, bi_some, dq_self, if_pos rfl]
      rfl
theorem reg5_of {a : Int32} (h1 : ¬ a < 1) (h2 : ¬ (5 : Int32) < a) : ∃ j : Nat, (1 ≤ j ∧ j ≤ 5) ∧ a = nI j := by
  have h5 : ¬ a < 0 := fun q => h1 (Int32.lt_trans q (by decide))
  obtain ⟨j, hj, rfl⟩ := nI_of2 (M := 5) (n := 5) (by decide) h5 (Int32.not_lt.mp h2)
  refine ⟨j, ⟨?_, hj⟩, rfl⟩
  by_cases hj0 : j = 0
  · subst hj0; exact absurd (by decide) h1
  · omega
theorem q_reg {d1 d3 d4 : Nat} (hp : (p = 40 ∧ d1 = 50) ∨ (p = 50 ∧ d1 = 40)) (h : rl pV p L LM nC nB W A Mc Mm) {a b : Int32} : lc_two (jA_register a b [p, d1, p, d3, d4] Mc) (jR_register a b [] Mm) (Rl pV) := by
  have h' := h.up0 (v := 0)
  simp only [jR_register, sm_wr]
  generalize sm_up Mm 1 0 0 = N at h' ⊢
  obtain ⟨-, nP, -, -, -, hr, -⟩ := h'.2.2.2.2
  unfold jA_register jM_tellRegister jR_isRegister
  by_cases h1 : a < 1
  · exact ⟨-1, [p, d1, p, d3, d4], Mc, N, by rw [if_pos h1]; exact (bi_some.trans dq_self), by rw [if_pos h1]; exact (bi_some.trans (dq_self.trans (if_pos rfl))), Rl.mk hp h'⟩
  · by_cases h2 : (5 : Int32) < a
    · exact ⟨-1, [p, d1, p, d3, d4], Mc, N, by rw [if_neg h1, if_pos h2]; exact (bi_some.trans dq_self), by rw [if_neg h1, if_pos h2]; exact (bi_some.trans (dq_self.trans (if_pos rfl))), Rl.mk hp h'⟩
    · rw [if_neg h1, if_neg h2, if_neg h1, if_neg h2, show jR_isRegister_15 1 [] N = some (1, [], N) from bo_1, bi_some, dq_self, if_neg (show ¬ (1 : Int32) = 0 by decide)]
      by_cases h3 : b < 0
      · exact ⟨-1, [p, d1, p, d3, d4], Mc, N, by rw [if_pos h3]; exact (bi_some.trans dq_self), by rw [if_pos h3]; rfl, Rl.mk hp h'⟩
      · by_cases h4 : (1 : Int32) < b
        · exact ⟨-1, [p, d1, p, d3, d4], Mc, N, by rw [if_neg h3, if_pos h4]; exact (bi_some.trans dq_self), by rw [if_neg h3, if_pos h4]; rfl, Rl.mk hp h'⟩
        · rw [if_neg h3, if_neg h4, if_neg h3, if_neg h4]
          obtain ⟨j, hj, rfl⟩ := reg5_of h1 h2
          obtain ⟨e1, e2, -⟩ := hr j hj.1 hj.2
          have hck : ∀ {ρ : Type} {q : Option ρ}, sm_ck (nI j) 6 q = q := ck_nI (by omega) (by decide)
          have hcl : (nI j).toNatClampNeg = j := nI_clamp (by omega)
          by_cases h0 : b = 0
          · refine ⟨N 47 j, [p, d1, p, d3, d4], Mc, N, ?_, ?_, Rl.mk hp h'⟩
            · rw [if_pos h0, hck, hcl, e1]; exact (bi_some.trans dq_self)
            · rw [if_pos h0, hck, hcl]; rfl
          · refine ⟨N 48 j, [p, d1, p, d3, d4], Mc, N, ?_, ?_, Rl.mk hp h'⟩
            · rw [if_neg h0, hck, hcl, e2]; exact (bi_some.trans dq_self)
            · rw [if_neg h0, hck, hcl]; rfl
end
