/-! compile: two parts, one behind the other -/
section
variable {p nE d0 d1 d2 d3 : Nat} {B Bm : sm_M} {L LM0 FR : List Ty} {k0 : Nat} {Ex PB : List Nat} {nC nB cur nV nD N mV k r v e m m' n h kd : Nat} {LC LR : List Ty} {W : Nat → Ty} {A : Nat → Option Ty} {TE : Nat → Ty} {BD : Nat → List Ty} {Mc Mm Mc' Mm' M : sm_M} {D : sm_D} {a b c x x' y y' z z' : Int32} {t ta tb : Ty} {o1 o2 : Option Ty}
theorem r_growO {w : Nat} (hO : wOr Bm LM0 LR M) (hl : LR.length < 3000) (h50 : M 1 50 = nI w) (hw : w < 1200) (h51 : M 1 51 = nI v) (hv : v < 1200) (h1 : ty_pr LR (M 42 v) o1) (h2 : ty_pr LR x o2) {bn : Int32} (hbn : bn = 0 ∨ bn = 1) : ∃ K M', jR_grow x bn [] M = some (0, [], M') ∧ wOr Bm LM0 (LR ++ K) M' ∧ M' 1 49 = M 1 49 ∧ K.length ≤ 1 := by
  have hb2 : ∀ {ρ : Type} {q : Option ρ}, sm_bo bn q = q := by
    intro ρ q
    rcases hbn with rfl | rfl
    · exact bo_0
    · exact bo_1
  have kw : ∀ {ρ : Type} {q : Option ρ}, sm_ck (nI w) 1200 q = q := ck_nI hw (by decide)
  have cw : (nI w).toNatClampNeg = w := nI_clamp (by omega)
  have kv : ∀ {ρ : Type} {q : Option ρ}, sm_ck (nI v) 1200 q = q := ck_nI hv (by decide)
  have cv : (nI v).toNatClampNeg = v := nI_clamp (by omega)
  have oY : ∀ q, q ≠ 40 → q ≠ 41 → q ≠ 43 → sm_up (sm_up (sm_up M 40 w (nI v)) 41 w x) 43 w bn q = M q := fun q a b c => by rw [up_ne c, up_ne b, up_ne a]
  have y1 := oY 1 (by decide) (by decide) (by decide)
  have y42 := oY 42 (by decide) (by decide) (by decide)
  have hOY : wOr Bm LM0 LR (sm_up (sm_up (sm_up M 40 w (nI v)) 41 w x) 43 w bn) := wOr_w hO (fun q a b => oY q (by omega) (by omega) (by omega)) (fun j _ => by rw [y1])
  obtain ⟨w', K, M2, e1, e3, e4, e5, e6⟩ : ∃ (w' : Int32) (K : List Ty) (M2 : sm_M), jR_find 1 (M 42 v) x (-1) [] (sm_up (sm_up (sm_up M 40 w (nI v)) 41 w x) 43 w bn) = some (w', [], M2) ∧ tabM M2 (LR ++ K) ∧ (∀ q, 6 < q → M2 q = sm_up (sm_up (sm_up M 40 w (nI v)) 41 w x) 43 w bn q) ∧ (∀ j, j ≠ 1 → M2 1 j = M 1 j) ∧ K.length ≤ 1 := by
    rcases r_find (D := []) (n := 1) hOY.1 (by decide) h1 h2 (Or.inl ⟨rfl, rfl⟩) hl with ⟨q, hq, hj⟩ | ⟨hno, M2, hj, hT, ho1, ho⟩
    · exact ⟨nI q, [], _, hj, by rw [List.append_nil]; exact hOY.1, fun _ _ => rfl, fun j _ => by rw [y1], Nat.zero_le _⟩
    · exact ⟨_, [_], M2, hj, hT, ho, fun j hj => by rw [ho1 j hj, y1], Nat.le_refl _⟩
  have z50 : M2 1 50 = nI w := by rw [e5 50 (by decide)]; exact h50
  have om : ∀ q, q ≠ 1 → q ≠ 42 → sm_up (sm_up (sm_up M2 42 w w') 1 51 (nI w)) 1 50 (nI (w + 1)) q = M2 q := fun q a b => by rw [up_ne a, up_ne a, up_ne b]
  have om1 : ∀ j, j ≠ 50 → j ≠ 51 → sm_up (sm_up (sm_up M2 42 w w') 1 51 (nI w)) 1 50 (nI (w + 1)) 1 j = M2 1 j := fun j a b => by rw [up_as a, up_as b, up_ne (by decide)]
  obtain ⟨K0, hK0⟩ := hO.2.1
  refine ⟨K, sm_up (sm_up (sm_up M2 42 w w') 1 51 (nI w)) 1 50 (nI (w + 1)), ?_, ⟨tabM_o (fun q a b => om q (by omega) (by omega)) (om1 1 (by decide) (by decide)) e3, ⟨K0 ++ K, by rw [hK0, List.append_assoc]⟩, by rw [om1 47 (by decide) (by decide), e5 47 (by decide)]; exact hO.2.2.1, hO.2.2.2.of (fun q hq => by rw [om q (by omega) (by omega), e4 q (by omega), oY q (by omega) (by omega) (by omega)]) (fun j a b c => by rw [om1 j (by omega) (by omega), e5 j a])⟩, by rw [om1 49 (by decide) (by decide), e5 49 (by decide)], e6⟩
  unfold jR_grow
  simp only [sm_wr]
  rw [h50, kw, cw, h51, up_ne (show (1 : Nat) ≠ 40 by decide), h50, kw, cw, up_ne (show (1 : Nat) ≠ 41 by decide), up_ne (show (1 : Nat) ≠ 40 by decide), h50, kw, cw, hb2, y1, h51, kv, cv, y42, e1, bi_some, dq_self, h50, kw, cw, up_ne (show (1 : Nat) ≠ 42 by decide), z50, up_as (show (50 : Nat) ≠ 51 by decide), up_ne (show (1 : Nat) ≠ 42 by decide), z50, nI_1]
/-- both sides push the left part's value -/
theorem w_push {bn : Nat} {u : Ty} (hg : [p] ∈ gC) (hp : 40 ≤ p) (hL : L.length + FR.length ≤ 60) (hM0 : LM0.length + 300 + k0 < 2990) (hS : wS p nE B Bm L LM0 FR k0 Ex PB nC nB cur nV nD LC LR W A TE BD Mc Mm) (hv : v < nV) (h51 : Mm 1 51 = nI v) (hr : r ≤ 390) (h49 : Mm 1 49 = nI (r + 1)) (hx : ty_pr LC x (some u)) (hx' : ty_pr LR (Mm 39 r) (some u)) (hbn : bn = 0 ∨ bn = 1) :
    (∃ (W' : Nat → Ty) (KC KR : List Ty) (Mc1 Mc' Mm' : sm_M), jC_put p 4 1 1 2 [d0, d1, d2, d3, p] Mc = some (0, [d0, d1, d2, d3, p], Mc1) ∧ (∀ q, 8 < q → q < 24 → Mc1 q = B q) ∧ jW_extend d0 d1 d2 d3 p (nI v) x (nI bn) Mc1 = some (nI nV, [d0, d1, d2, d3, p], Mc') ∧ jR_push (nI bn) [] Mm = some (0, [], Mm') ∧ wS p nE B Bm L LM0 FR k0 Ex PB (nC + 1) nB cur (nV + 1) nD (LC ++ KC) (LR ++ KR) W' A (fun i => if i = nV then tyP (TE v) u else TE i) (fun i => if i = nV then (if bn = 1 then u :: BD v else BD v) else BD i) Mc' Mm' ∧ Mm' 1 51 = nI nV ∧ Mm' 1 49 = nI r ∧ Mm' 1 48 = Mm 1 48 ∧ (∀ q, q = 36 ∨ q = 37 ∨ q = 38 ∨ q = 39 → Mm' q = Mm q) ∧ Mm' 40 nV = nI v ∧ ty_pr (LR ++ KR) (Mm' 41 nV) (some u) ∧ ∀ i, i < nV → Mm' 40 i = Mm 40 i) ∨
    (∃ (K : List Ty) (Mc' Mo : sm_M), jC_put p 4 1 1 2 [d0, d1, d2, d3, p] Mc = some (0, [d0, d1, d2, d3, p], Mc') ∧ wOc p B L LC 400 nV Mc' ∧ jR_push (nI bn) [] Mm = some (0, [], Mo) ∧ wOr Bm LM0 (LR ++ K) Mo ∧ Mo 1 49 = nI r) := by
  have hLC := hS.len hL
  have hnC := hS.1.1
  have hct := ct4_le (o := Mm 29) nC
  have t5 := hS.2.1.2.2.2.2.1
  have t6 := hS.2.1.2.2.2.2.2.1
  have n5 := hS.1.2.2.2.2.1
  rcases w_put (D := [d0, d1, d2, d3, p]) (o := 4) (a := 1) (b := 1) (c := 2) (c' := 2) hg hp hS hLC (by decide) rfl rfl rfl (Or.inr (Or.inl ⟨Or.inr (Or.inr (Or.inr (Or.inl rfl))), rg1, rg1, rg2⟩)) (fun _ => rfl) (fun q => absurd q (by decide)) with ⟨W', Mc2, Mm2, e1, e2, e3, e4, e5, e6⟩ | ⟨Mc2, e1, e2, e3, e4⟩
  · have e1' : jC_put p 4 1 1 2 [d0, d1, d2, d3, p] Mc = some (0, [d0, d1, d2, d3, p], Mc2) := e1
    have e2' : jR_emit 4 1 1 2 [] Mm = some (0, [], Mm2) := e2
    rw [if_pos rfl] at e4
    have y49 : Mm2 1 49 = nI (r + 1) := by rw [e6 49 (by decide)]; exact h49
    have y39 : Mm2 39 r = Mm 39 r := by rw [e5 39 (by decide)]
    have hS3 : wS p nE B Bm L LM0 FR k0 Ex PB (nC + 1) nB cur nV nD LC LR W' A TE BD Mc2 (sm_up Mm2 1 49 (nI r)) := wS_w e3 (fun q a _ => up_ne a) (fun j _ a _ => up_as a)
    have u29 : sm_up Mm2 1 49 (nI r) 29 = Mm2 29 := up_ne (by decide)
    obtain ⟨KC, KR, Mc3, Mm3, f1, f2, f3, f4, f5, f6, f7, f8, f9, f10, f11⟩ := w_ext (d0 := d0) (d1 := d1) (d2 := d2) (d3 := d3) (v := v) (bn := bn) (u := u) (x := x) (x' := Mm 39 r) hp hS3 hv (by rw [up_as (by decide), e6 51 (by decide)]; exact h51) hx hx' hbn (by rw [u29, e4]; omega) (by rw [u29, e4]; omega) (by rw [u29, e4]; omega) (by omega)
    refine Or.inl ⟨W', KC, KR, Mc2, Mc3, Mm3, e1', fun q a b => e3.rowC hp a b, f1, ?_, f3, f4, ?_, ?_, ?_, ?_, ?_, fun i hi => ?_⟩
    · unfold jR_push
      rw [e2', bi_some, dq_self, r_done (by omega) y49, bi_some, dq_self, y39, f2, bi_some, dq_self]
    · rw [f7 49 (by decide) (by decide) (by decide), up_at]
    · rw [f7 48 (by decide) (by decide) (by decide), up_as (by decide), e6 48 (by decide)]
    · intro q hq
      rcases hq with rfl | rfl | rfl | rfl
      · rw [f6 36 (by decide) (by decide), up_ne (by decide), e5 36 (by decide)]
      · rw [f6 37 (by decide) (by decide), up_ne (by decide), e5 37 (by decide)]
      · rw [f6 38 (by decide) (by decide), up_ne (by decide), e5 38 (by decide)]
      · rw [f6 39 (by decide) (by decide), up_ne (by decide), e5 39 (by decide)]
    · exact f9
    · rw [f10]; exact hx'.grow
    · rw [f11 i hi, up_ne (by decide), e5 40 (by decide)]
  · have e1' : jC_put p 4 1 1 2 [d0, d1, d2, d3, p] Mc = some (0, [d0, d1, d2, d3, p], Mc2) := e1
    have e3' : jR_emit 4 1 1 2 [] Mm = some (0, [], sm_up Mm 1 47 1) := e3
    have y49 : sm_up Mm 1 47 1 1 49 = nI (r + 1) := by rw [up_as (by decide)]; exact h49
    have hO3 : wOr Bm LM0 LR (sm_up (sm_up Mm 1 47 1) 1 49 (nI r)) := wOr_w e4 (fun q a _ => up_ne a) (fun j hj => up_as (by omega))
    obtain ⟨q1, q2, -⟩ := hS.2.2.2.2.2.2.1 v hv
    obtain ⟨K, M', g1, g2, g3, g4⟩ := r_growO (v := v) (w := nV) (x := Mm 39 r) (bn := nI bn) hO3 (by omega) (by rw [up_as (by decide), up_as (by decide)]; exact hS.2.2.2.1.2.2.2.2.1) (by omega) (by rw [up_as (by decide), up_as (by decide)]; exact h51) (by omega) (by rw [up_ne (by decide), up_ne (by decide)]; exact q2) hx' (by rcases hbn with rfl | rfl; exact Or.inl rfl; exact Or.inr rfl)
    refine Or.inr ⟨K, Mc2, M', e1', e2, ?_, g2, by rw [g3, up_at]⟩
    unfold jR_push
    rw [e3', bi_some, dq_self, r_done (by omega) y49, bi_some, dq_self, up_ne (show (39 : Nat) ≠ 1 by decide), g1, bi_some, dq_self]
end
