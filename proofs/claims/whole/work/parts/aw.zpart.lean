/-! the reference's typing: a part's answer; a frame is left -/
section
variable {M0 M N M' M1 M2 : sm_M} {L LM LM' LM2 env env' : List Ty} {d e e' k m n nE ph : Nat} {x : Int32} {t : Ty}
theorem zF.mono {d' m' : Nat} (h : zF d m M' M) (hd : d' ≤ d) (hm : m' ≤ m) : zF d' m' M' M := ⟨h.1, fun j hj => h.2.1 j (by omega), fun j hj => h.2.2 j (by omega)⟩
theorem zX.o (h : zX M0 LM LM' env n M) (ho : ∀ q, q ≠ 19 → q ≠ 20 → q ≠ 21 → M' q = M q) : zX M0 LM LM' env n M' := by
  obtain ⟨h1, h2, h3, h4, h5, h6, h7⟩ := h
  have o1 := ho 1 (by decide) (by decide) (by decide)
  exact ⟨tabM_o (fun q a b => ho q (by omega) (by omega) (by omega)) (by rw [o1]) h1, h2, h3, by rw [o1]; exact h4, by rw [o1]; exact h5, fun j t hj => by rw [ho 23 (by decide) (by decide) (by decide)]; exact h6 j t hj, fun q a b => by rw [ho q (by omega) (by omega) (by omega)]; exact h7 q a b⟩
theorem zF_o (ho : ∀ q, q ≠ 19 → q ≠ 20 → q ≠ 21 → M' q = M q) (hj : ∀ j, j < d → M' 19 j = M 19 j ∧ M' 20 j = M 20 j ∧ M' 21 j = M 21 j) : zF d m M' M :=
  ⟨⟨fun q a b => ho q (by omega) (by omega) (by omega), fun q a => ho q (by omega) (by omega) (by omega), fun j _ _ _ _ => by rw [ho 1 (by decide) (by decide) (by decide)]⟩, fun j h => ⟨by rw [ho 18 (by decide) (by decide) (by decide)], hj j h⟩, fun j _ => by rw [ho 23 (by decide) (by decide) (by decide)]⟩
theorem z_lv (hT : tabM M' LM2) (hK : ∃ K, LM2 = LM ++ K) (h0 : LM[0]? = some tyN) (h20 : M' 1 20 = nI d) (h21 : M' 1 21 = nI env.length) (h23 : ∀ (j : Nat) (t : Ty), env[j]? = some t → ty_pr LM2 (M 23 (env.length - 1 - j)) (some t)) (h17 : ∀ q, 7 ≤ q → q ≤ 17 → M q = M0 q) (hq : ∀ q, 6 < q → q ≠ 19 → q ≠ 20 → q ≠ 21 → M' q = M q) (hj : ∀ j, j < d → M' 19 j = M 19 j ∧ M' 20 j = M 20 j ∧ M' 21 j = M 21 j) (h1 : ∀ j, j ≠ 1 → j ≠ 20 → j ≠ 21 → j ≠ 22 → M' 1 j = M 1 j) : zX M0 LM LM2 env d M' ∧ zF d m M' M := by
  refine ⟨⟨hT, hK, h0, h20, h21, fun j t hjt => ?_, fun q a b => ?_⟩, ⟨fun q a b => hq q a (by omega) (by omega) (by omega), fun q a => hq q (by omega) (by omega) (by omega) (by omega), h1⟩, fun j h => ⟨?_, hj j h⟩, fun j _ => ?_⟩
  · rw [hq 23 (by decide) (by decide) (by decide) (by decide)]; exact h23 j t hjt
  · rw [hq q (by omega) (by omega) (by omega) (by omega)]; exact h17 q a b
  · rw [hq 18 (by decide) (by decide) (by decide) (by decide)]
  · rw [hq 23 (by decide) (by decide) (by decide) (by decide)]
/-- a part's answer has come; the frame at d stands at phase ph -/
def zS (M0 : sm_M) (LM LM2 env env' : List Ty) (d e ph : Nat) (a b : Int32) (t : Ty) (M1 M : sm_M) : Prop := jR_typeOf_17 1 [] M = jR_typeOf_17 1 [] M1 ∧ zX M0 LM LM2 env' (d + 1) M1 ∧ ty_pr LM2 (M1 1 22) (some t) ∧ M1 18 d = nI e ∧ M1 19 d = nI ph ∧ M1 20 d = a ∧ M1 21 d = b ∧ zF d env.length M1 M
def zW (LM' : List Ty) (b : Nat) (M : sm_M) : Prop := ∃ (K' : List Ty) (M' : sm_M), jR_typeOf_17 1 [] M = jR_typeOf_17 0 [] M' ∧ tabM M' (LM' ++ K') ∧ zG M' M ∧ K'.length ≤ b
theorem z_part (hE : nE ≤ 40) (hi : zI M0 L LM nE n) (hs : ∀ u ∈ env', tyS L u) (hX : zX M0 LM LM' env' (d + 1) N) (hF : zF d env.length N M) (hle : env.length ≤ env'.length) (h0 : (0 : Int32) < M 1 20) (hn : jR_typeNext [] M = some (1, [], bgF N (d + 1) (nI e'))) (h18 : N 18 d = nI e) (h19 : N 19 d = nI ph) {g : Nat} (he : e' < nE) (hg : M0 17 e' = nI g) (hgn : g ≤ n) (hd : d + 1 + n ≤ 60) (hl16 : env'.length + 2 * n ≤ 16) (hl : LM'.length + pw n < 3000) :
    (∃ (t : Ty) (K' : List Ty) (M1 : sm_M), pT (M0 12) (M0 13) (M0 14) (M0 15) (M0 16) L n env' e' t ∧ zS M0 LM (LM' ++ K') env env' d e ph (N 20 d) (N 21 d) t M1 M ∧ K'.length ≤ pw n) ∨ ((∀ t, ¬ pT (M0 12) (M0 13) (M0 14) (M0 15) (M0 16) L n env' e' t) ∧ zW LM' (pw n) M) := by
  have hb : ∀ m : Nat, zF (d + 1) m (bgF N (d + 1) (nI e')) N := fun m => bgF_F
  rcases z_sub hE hi hs hX he hg hgn hd hl16 hl with ⟨t, K', M1, hP, hlp, hX1, hp, hF1, hK⟩ | ⟨hno, K', M', hlp, hT, hG, hK⟩
  · have hF2 := hF1.trans (hb _)
    obtain ⟨a1, a2, a3, a4⟩ := hF2.2.1 d (by omega)
    exact Or.inl ⟨t, K', M1, hP, ⟨(z_loop h0 hn).trans hlp, hX1, hp, a1.trans h18, a2.trans h19, a3, a4, (hF2.mono (by omega) hle).trans hF⟩, hK⟩
  · exact Or.inr ⟨hno, K', M', (z_loop h0 hn).trans hlp, hT, hG.trans ((hb 0).1.trans hF.1), hK⟩
theorem zS.pos {a b : Int32} (h : zS M0 LM LM2 env env' d e ph a b t M1 M) (hd : d < 60) : (0 : Int32) < M1 1 20 := by
  rw [h.2.1.2.2.2.1]
  exact nI_lt (a := 0) (by omega) (by omega)
theorem zS.fail {a b : Int32} {c : Nat} {K' : List Ty} (h : zS M0 LM (LM' ++ K') env env' d e ph a b t M1 M) (hd : d < 60) (hK : K'.length ≤ c) (hn : jR_typeNext [] M1 = some (0, [], M2)) (hT : tabM M2 (LM' ++ K')) (hG : zG M2 M1) : zW LM' c M := ⟨K', M2, h.1.trans (z_loop (h.pos hd) hn), hT, hG.trans h.2.2.2.2.2.2.2.1, hK⟩
theorem zS.done {a b : Int32} {c : Nat} {P : Ty → Prop} {K' K : List Ty} {u : Ty} (h : zS M0 LM (LM' ++ K') env env' d e ph a b t M1 M) (hd : d < 60) (hK : (K' ++ K).length ≤ c) (hn : jR_typeNext [] M1 = some (1, [], M2)) (hP : P u) (hX : zX M0 LM (LM' ++ K' ++ K) env d M2) (hF : zF d env.length M2 M1) (hp : ty_pr (LM' ++ K' ++ K) (M2 1 22) (some u)) : zQ M0 LM P c LM' env d M := by
  rw [List.append_assoc] at hX hp
  exact Or.inl ⟨u, K' ++ K, M2, hP, h.1.trans (z_loop (h.pos hd) hn), hX, hp, hF.trans h.2.2.2.2.2.2.2, hK⟩
theorem zS.then {a b a' b' : Int32} {ph' : Nat} {LM3 : List Ty} {u : Ty} (h : zS M0 LM LM2 env env' d e ph a b t M1 M) (h' : zS M0 LM LM3 env env d e ph' a' b' u M2 M1) : zS M0 LM LM3 env env d e ph' a' b' u M2 M := by
  obtain ⟨a1, a2, a3, a4, a5, a6, a7, a8⟩ := h'
  exact ⟨h.1.trans a1, a2, a3, a4, a5, a6, a7, a8.trans h.2.2.2.2.2.2.2⟩
theorem zS.thenW {a b : Int32} {c c' : Nat} {K' : List Ty} (h : zS M0 LM (LM' ++ K') env env' d e ph a b t M1 M) (h' : zW (LM' ++ K') c M1) (hc : K'.length + c ≤ c') : zW LM' c' M := by
  obtain ⟨K, M2, a1, a2, a3, a4⟩ := h'
  refine ⟨K' ++ K, M2, h.1.trans a1, ?_, a3.trans h.2.2.2.2.2.2.2.1, ?_⟩
  · rw [← List.append_assoc]; exact a2
  · rw [List.length_append]; omega
theorem zX.is0 {D : Nat} (h : zX M0 LM LM' env D M) (hp : ty_pr LM' x (some t)) : x = 0 ↔ t = tyN := by
  have h1 : ty_pr LM' 0 (some tyN) := Or.inr ⟨0, tyN, rfl, h.tn, nI_0.symm⟩
  have hl := h.1.1
  constructor
  · intro e
    rw [e] at hp
    exact Option.some.inj (ty_pr.fn (by omega) hp h1)
  · intro e
    rw [e] at hp
    exact ty_pr.inj h.1.2.2.1 hp h1
theorem zW.mono {c c' : Nat} (h : zW LM' c M) (hc : c ≤ c') : zW LM' c' M := by
  obtain ⟨K, M2, a1, a2, a3, a4⟩ := h
  exact ⟨K, M2, a1, a2, a3, by omega⟩
end
