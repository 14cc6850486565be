/-! the check, the class's side: its state -/
noncomputable def cU (LC : List Ty) : List Ty → Nat
  | [] => 0
  | t :: r => (haveI := Classical.propDecidable (t ∈ LC); if t ∈ LC then 0 else 1) + cU LC r
theorem cU_le (LC : List Ty) : ∀ FR : List Ty, cU LC FR ≤ FR.length
  | [] => Nat.le_refl _
  | t :: r => by
    have := cU_le LC r
    have h : cU LC (t :: r) = (haveI := Classical.propDecidable (t ∈ LC); if t ∈ LC then 0 else 1) + cU LC r := rfl
    rw [h]
    by_cases g : t ∈ LC
    · rw [if_pos g]; show 0 + cU LC r ≤ r.length + 1; omega
    · rw [if_neg g]; show 1 + cU LC r ≤ r.length + 1; omega
theorem cU_mono {LC LC' : List Ty} (hs : ∀ t, t ∈ LC → t ∈ LC') : ∀ FR : List Ty, cU LC' FR ≤ cU LC FR
  | [] => Nat.le_refl _
  | t :: r => by
    have := cU_mono hs r
    have h : cU LC (t :: r) = (haveI := Classical.propDecidable (t ∈ LC); if t ∈ LC then 0 else 1) + cU LC r := rfl
    have h' : cU LC' (t :: r) = (haveI := Classical.propDecidable (t ∈ LC'); if t ∈ LC' then 0 else 1) + cU LC' r := rfl
    rw [h, h']
    by_cases g : t ∈ LC
    · rw [if_pos g, if_pos (hs t g)]; omega
    · rw [if_neg g]
      by_cases g' : t ∈ LC'
      · rw [if_pos g']; omega
      · rw [if_neg g']; omega
theorem cU_new {LC LC' : List Ty} (hs : ∀ t, t ∈ LC → t ∈ LC') {u : Ty} (h1 : u ∉ LC) (h2 : u ∈ LC') : ∀ FR : List Ty, u ∈ FR → cU LC' FR + 1 ≤ cU LC FR
  | [], h => by cases h
  | t :: r, hu => by
    have h : cU LC (t :: r) = (haveI := Classical.propDecidable (t ∈ LC); if t ∈ LC then 0 else 1) + cU LC r := rfl
    have h' : cU LC' (t :: r) = (haveI := Classical.propDecidable (t ∈ LC'); if t ∈ LC' then 0 else 1) + cU LC' r := rfl
    rw [h, h']
    rcases List.mem_cons.mp hu with rfl | hu
    · have := cU_mono hs r
      rw [if_neg h1, if_pos h2]; omega
    · have := cU_new hs h1 h2 r hu
      by_cases g : t ∈ LC
      · rw [if_pos g, if_pos (hs t g)]; omega
      · rw [if_neg g]
        by_cases g' : t ∈ LC'
        · rw [if_pos g']; omega
        · rw [if_neg g']; omega
def cZ (B : sm_M) (L0 : List Ty) (LC : List Ty) (M : sm_M) : Prop := tabC M LC ∧ (∃ K, LC = L0 ++ K) ∧ ∀ q, 8 < q → q ≠ 32 → M q = B q
def cX (B : sm_M) (L0 FR : List Ty) (h i N : Nat) (LC : List Ty) (R : Nat → Option Ty) (M : sm_M) : Prop := cZ B L0 LC M ∧ LC.length + cU LC FR ≤ N ∧ (∀ a b, tyF a b ∈ LC → tyR b ∈ FR) ∧ (∀ m, i ≤ m → ty_hid (h + m) ∉ LC) ∧ LC[0]? = some tyN ∧ (∀ t, t ∈ LC → tyok t ∨ ∃ n, t = ty_hid n) ∧ ∀ r, 1 ≤ r → r ≤ 5 → ty_pr LC (M 32 r) (R r)
/-- the class's code at p, as the pure rows say it -/
def cC (B : sm_M) (L0 : List Ty) (p nB nC : Nat) (W : Nat → Ty) (A : Nat → Option Ty) (o a b c : Nat → Int32) : Prop := nC ≤ 300 ∧ nB ≤ 40 ∧ B p 11 = nI nB ∧ (∀ i, i < nC → B (p + 1) i = o i ∧ B (p + 2) i = a i ∧ B (p + 3) i = b i ∧ (o i ≠ 7 → B (p + 4) i = c i) ∧ (o i = 7 → ty_pr L0 (B (p + 4) i) (some (W i)) ∧ wOk (W i)) ∧ frm (o i) (a i) (b i) (c i)) ∧ ∀ k, k < 3 * nB → ty_pr L0 (B (p + 8) k) (A k)
section
variable {B M : sm_M} {L0 FR LC : List Ty} {h i N p nB nC n : Nat} {W : Nat → Ty} {A : Nat → Option Ty} {o a b c : Nat → Int32} {R : Nat → Option Ty} {D : sm_D} {x y z : Int32} {o1 o2 o3 : Option Ty} {t : Ty}
theorem cX.tn (hX : cX B L0 FR h i N LC R M) : ty_pr LC 0 (some tyN) := Or.inr ⟨0, tyN, rfl, hX.2.2.2.2.1, nI_0.symm⟩
theorem cX.is0 (hX : cX B L0 FR h i N LC R M) (hp : ty_pr LC x o1) : x = 0 ↔ o1 = some tyN := by
  have hl := hX.1.1.1
  exact ⟨fun e => by rw [e] at hp; exact ty_pr.fn (by omega) hp hX.tn, fun e => by rw [e] at hp; exact ty_pr.inj hX.1.1.2.2.1 hp hX.tn⟩
theorem ty_pr.m1 {L : List Ty} (hl : L.length < 2 ^ 31) (hp : ty_pr L x o1) : x = -1 ↔ o1 = none := by
  rcases hp with ⟨e, q⟩ | ⟨j, u, e, hj, q⟩
  · exact ⟨fun _ => e, fun _ => q⟩
  · have := (List.getElem?_eq_some_iff.mp hj).1
    exact ⟨fun z => absurd (q.symm.trans z) (nI_m1 (by omega)), fun z => by rw [e] at z; cases z⟩
theorem cX.mono {N' : Nat} (hX : cX B L0 FR h i N LC R M) (hN : N ≤ N') : cX B L0 FR h i N' LC R M := ⟨hX.1, by have := hX.2.1; omega, hX.2.2⟩
theorem cX.next (hX : cX B L0 FR h i N LC R M) : cX B L0 FR h (i + 1) N LC R M := ⟨hX.1, hX.2.1, hX.2.2.1, fun m hm => hX.2.2.2.1 m (by omega), hX.2.2.2.2⟩
theorem cX.rgs {r : Nat} (hX : cX B L0 FR h i N LC R M) (hp : ty_pr LC x o1) : cX B L0 FR h i N LC (rg R r o1) (sm_up M 32 r x) := by
  obtain ⟨⟨a1, a2, a3⟩, b, c, d, e, ok, f⟩ := hX
  refine ⟨⟨tabC_o (fun q hq => up_ne (by omega)) a1, a2, fun q q1 q2 => by rw [up_ne q2]; exact a3 q q1 q2⟩, b, c, d, e, ok, fun k k1 k5 => ?_⟩
  unfold rg
  by_cases g : k = r
  · subst g
    rw [if_pos rfl, up_at]
    exact hp
  · rw [if_neg g, up_as g]
    exact f k k1 k5
/-- a table that has grown by one -/
theorem cX.push {M' : sm_M} (hX : cX B L0 FR h i N LC R M) (hT : tabC M' (LC ++ [t])) (ho : ∀ q, 8 < q → M' q = M q) {N' i' : Nat} (hN : (LC ++ [t]).length + cU (LC ++ [t]) FR ≤ N') (hF : ∀ a b, t ≠ tyF a b) (hk : tyok t ∨ ∃ n, t = ty_hid n) (hi : i ≤ i') (hh : ∀ m, i' ≤ m → t ≠ ty_hid (h + m)) : cX B L0 FR h i' N' (LC ++ [t]) R M' := by
  obtain ⟨⟨a1, ⟨K, a2⟩, a3⟩, b, c, d, e, ok, f⟩ := hX
  refine ⟨⟨hT, ⟨K ++ [t], by rw [a2, List.append_assoc]⟩, fun q q1 q2 => by rw [ho q q1]; exact a3 q q1 q2⟩, hN, fun x y hm => ?_, fun m hm hmem => ?_, ?_, fun u hu => ?_, fun k k1 k5 => ?_⟩
  · rcases List.mem_append.mp hm with hm | hm
    · exact c x y hm
    · exact absurd (List.mem_singleton.mp hm).symm (hF x y)
  · rcases List.mem_append.mp hmem with hm' | hm'
    · exact d m (by omega) hm'
    · exact hh m hm (List.mem_singleton.mp hm').symm
  · rw [List.getElem?_append_left (List.getElem?_eq_some_iff.mp e).1]; exact e
  · rcases List.mem_append.mp hu with hu | hu
    · exact ok u hu
    · rw [List.mem_singleton.mp hu]; exact hk
  · rw [ho 32 (by decide)]; exact (f k k1 k5).grow
theorem c_fd (hX : cX B L0 FR h i N LC R M) (hn : n < 5) (n2 : n ≠ 2) (hk : tyok (ty_mk n o1 o2 o3)) (h1 : ty_pr LC x o1) (h2 : ty_pr LC y o2) (h3 : ty_pr LC z o3) {N' : Nat} (hN : (N + 1 ≤ N' ∧ N < 800) ∨ (N ≤ N' ∧ N ≤ 800 ∧ ty_mk n o1 o2 o3 ∈ FR)) : ∃ (w : Int32) (K : List Ty) (M' : sm_M), jT_find (nI n) x y z D M = some (w, D, M') ∧ ty_pr (LC ++ K) w (some (ty_mk n o1 o2 o3)) ∧ cX B L0 FR h i N' (LC ++ K) R M' := by
  rcases j_find (D := D) hX.1.1 hn h1 h2 h3 with ⟨r, hr, hj⟩ | ⟨hno, hlt, M', hj, hT, ho⟩ | ⟨hno, hlen, -⟩
  · refine ⟨nI r, [], M, hj, ?_, ?_⟩
    · rw [List.append_nil]; exact Or.inr ⟨r, _, rfl, hr, rfl⟩
    · rw [List.append_nil]; exact hX.mono (by omega)
  · have hsub : ∀ t, t ∈ LC → t ∈ LC ++ [ty_mk n o1 o2 o3] := fun t ht => List.mem_append_left _ ht
    have hb := hX.2.1
    have hm := cU_mono hsub FR
    refine ⟨nI LC.length, [ty_mk n o1 o2 o3], M', hj, Or.inr ⟨LC.length, _, rfl, ?_, rfl⟩, hX.push hT ho ?_ (fun a b q => n2 (ty_mk_inj q).1) (Or.inl hk) (Nat.le_refl _) (fun m _ q => ty_mk_hid q)⟩
    · rw [List.getElem?_append_right (Nat.le_refl _), Nat.sub_self]; rfl
    · rw [List.length_append]
      show LC.length + 1 + _ ≤ _
      rcases hN with ⟨q1, q2⟩ | ⟨q1, q2, q3⟩
      · omega
      · have := cU_new hsub hno (List.mem_append_right _ (List.mem_singleton.mpr rfl)) FR q3
        omega
  · exfalso
    have hb := hX.2.1
    rcases hN with ⟨q1, q2⟩ | ⟨q1, q2, q3⟩
    · omega
    · have := cU_new (LC' := LC ++ [ty_mk n o1 o2 o3]) (fun t ht => List.mem_append_left _ ht) hno (List.mem_append_right _ (List.mem_singleton.mpr rfl)) FR q3
      omega
/-- the kind that a table says -/
def kdI (o : Option Ty) : Int32 := match o with
  | none => -1
  | some t => nI (ty_kd t)
theorem tab_kd (hT : tabC M LC) (hp : LC[n]? = some t) : M 2 n = nI (ty_kd t) ∧ ty_kd t ≤ 5 := by
  obtain ⟨hs, -⟩ := hT.2.2.2.1 n t hp
  rcases hs with ⟨k, q1, q2, q3, hk, rfl, e, -⟩ | ⟨k, rfl, e, -⟩
  · rw [kd_mk]; exact ⟨e, by omega⟩
  · rw [kd_hid]; exact ⟨e, Nat.le_refl _⟩
theorem c_kd (hT : tabC M LC) (hp : ty_pr LC x o1) : jT_kindOf x D M = some (kdI o1, D, M) := by
  rcases hp with ⟨rfl, rfl⟩ | ⟨j, u, rfl, hj, rfl⟩
  · exact j_kindOf_m1
  · rw [j_kindOf hT hj, (tab_kd hT hj).1]; rfl
theorem kdI_is (hT : tabC M LC) (hp : ty_pr LC x o1) {k : Nat} (hk : k < 5) : kdI o1 = nI k ↔ ∃ q1 q2 q3, o1 = some (ty_mk k q1 q2 q3) := by
  rcases hp with ⟨rfl, rfl⟩ | ⟨j, u, rfl, hj, rfl⟩
  · exact ⟨fun q => absurd q.symm (nI_m1 (by omega)), fun ⟨_, _, _, q⟩ => by cases q⟩
  · obtain ⟨hs, -⟩ := hT.2.2.2.1 j u hj
    have h5 := (tab_kd hT hj).2
    constructor
    · intro q
      have hk' : ty_kd u = k := nI_inj (by omega) (by omega) q
      rcases hs with ⟨m, q1, q2, q3, hm, rfl, e, -⟩ | ⟨m, rfl, e, -⟩
      · rw [kd_mk] at hk'
        subst hk'
        exact ⟨q1, q2, q3, rfl⟩
      · rw [kd_hid] at hk'
        omega
    · rintro ⟨q1, q2, q3, e⟩
      rw [Option.some.inj e]
      rfl
/-- the parts of a row that is no hidden one -/
theorem c_parts (hT : tabC M LC) {k : Nat} (hp : ty_pr LC x (some (ty_mk k o1 o2 o3))) : ∃ x1 x2 x3, (∀ {D : sm_D}, jT_firstOf x D M = some (x1, D, M)) ∧ (∀ {D : sm_D}, jT_secondOf x D M = some (x2, D, M)) ∧ (∀ {D : sm_D}, jT_thirdOf x D M = some (x3, D, M)) ∧ ty_pr LC x1 o1 ∧ ty_pr LC x2 o2 ∧ ty_pr LC x3 o3 := by
  rcases hp with ⟨e, -⟩ | ⟨j, u, e, hj, rfl⟩
  · cases e
  · rw [← Option.some.inj e] at hj
    obtain ⟨-, -, e1, e2, e3⟩ := hT.row hj
    exact ⟨_, _, _, j_firstOf hT hj, j_secondOf hT hj, j_thirdOf hT hj, e1, e2, e3⟩
theorem ty_pr.eq {L : List Ty} (hl : L.length < 2 ^ 31) (hn : L.Nodup) (h1 : ty_pr L x o1) (h2 : ty_pr L y o2) : x = y ↔ o1 = o2 := ⟨fun e => by rw [e] at h1; exact ty_pr.fn hl h1 h2, fun e => by rw [e] at h1; exact ty_pr.inj hn h1 h2⟩
theorem c_gets {r : Nat} (hr : 1 ≤ r ∧ r ≤ 5) : jK_gets (nI r) x D M = some (1, D, sm_up M 32 r x) := by
  simp only [jK_gets, sm_wr]
  rw [ck_nI (by omega) (by decide), nI_clamp (by omega), bo_1]
end
