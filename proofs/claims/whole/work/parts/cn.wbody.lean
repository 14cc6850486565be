/-! compile: a body, where it does not fit -/
noncomputable def cB5 (p d0 d1 d2 d3 : Nat) (M : sm_M) : Option sm_S := cPuts p [d0, d1, d2, d3, p] (fun M => some (0, [d0, d1, d2, d3, p], M)) [(5, 4, 1, 0, 0), (5, 4, 4, 1, 1), (8, 5, 1, 4, 4), (11, 5, 0, 0, 0)] M
noncomputable def cB4 (p d0 d1 d2 d3 : Nat) (f x13 : Int32) (M : sm_M) : Option sm_S := sm_bi (sm_ga [p] gC (jW_write 8 d0 d1 d2 d3 p f x13 M)) (fun _ E M' => sm_dq E [d0, d1, d2, d3, p] (cB5 p d0 d1 d2 d3 M'))
noncomputable def cB3 (p d0 d1 d2 d3 e : Nat) (x11 x1 : Int32) (M : sm_M) : Option sm_S := cPuts p [d0, d1, d2, d3, p] (fun M12 => sm_bi (sm_ga [p] gC (jW_extend d0 d1 d2 d3 p x11 x1 1 M12)) (fun x13 E M13 => sm_dq E [d0, d1, d2, d3, p] (cB4 p d0 d1 d2 d3 (M12 12 e) x13 M13))) [(4, 1, 1, 2, 2)] M
noncomputable def cB2 (p d0 d1 d2 d3 e : Nat) (x9 x3 x1 : Int32) (M : sm_M) : Option sm_S := sm_bi (sm_ga [p] gC (jW_extend d0 d1 d2 d3 p x9 x3 0 M)) (fun x11 E M' => sm_dq E [d0, d1, d2, d3, p] (cB3 p d0 d1 d2 d3 e x11 x1 M'))
noncomputable def cB1 (p d0 d1 d2 d3 e : Nat) (v T x3 x1 : Int32) (M : sm_M) : Option sm_S := sm_bi (sm_ga [p] gC (jW_extend d0 d1 d2 d3 p v T 1 M)) (fun x9 E M' => sm_dq E [d0, d1, d2, d3, p] (cPuts p [d0, d1, d2, d3, p] (cB2 p d0 d1 d2 d3 e x9 x3 x1) [(4, 1, 1, 3, 3)] M'))
noncomputable def cB0 (p d0 d1 d2 d3 e : Nat) (v b T x3 x1 : Int32) (M : sm_M) : Option sm_S := cPuts p [d0, d1, d2, d3, p] (cB1 p d0 d1 d2 d3 e v T x3 x1) [(6, 4, b, 0, 0), (4, 4, 4, 1, 1), (7, 4, 4, T, T), (4, 1, 1, 4, 4)] M
noncomputable def rB5 (M : sm_M) : Option sm_S := sm_bi (jR_doneLast [] M) (fun _ E M' => sm_dq E [] (rPuts (fun M => some (0, [], M)) [(5, 4, 1, 0, 0), (5, 4, 4, 1, 1), (8, 5, 1, 4, 4), (11, 5, 0, 0, 0)] M'))
noncomputable def rB4 (e : Nat) (M : sm_M) : Option sm_S := sm_bi (jR_writeAll (M 14 e) [] M) (fun _ E M' => sm_dq E [] (rB5 M'))
noncomputable def rB3 (e jj : Nat) (M : sm_M) : Option sm_S := sm_bi (jR_finish (M 3 jj) [] M) (fun _ E M' => sm_dq E [] (sm_bi (jR_push 1 [] M') (fun _ E2 M2 => sm_dq E2 [] (rB4 e M2))))
noncomputable def rB2 (e jj : Nat) (x1 : Int32) (M : sm_M) : Option sm_S := sm_bi (jR_grow x1 0 [] M) (fun _ E M' => sm_dq E [] (rB3 e jj M'))
noncomputable def rB1 (e jj : Nat) (x1 : Int32) (M : sm_M) : Option sm_S := sm_bi (jR_grow (nI jj) 1 [] M) (fun _ E M' => sm_dq E [] (rPuts (rB2 e jj x1) [(4, 1, 1, 3, 3)] M'))
noncomputable def rB0 (e jj : Nat) (b x1 : Int32) (M : sm_M) : Option sm_S := rPuts (rB1 e jj x1) [(6, 4, b, 0, 0), (4, 4, 4, 1, 1), (7, 4, 4, nI jj, nI jj), (4, 1, 1, 4, 4)] M
section
variable {p nE d0 d1 d2 d3 : Nat} {B Bm : sm_M} {L LM0 FR : List Ty} {k0 : Nat} {Ex PB : List Nat} {nC nB cur nV nD N mV k r v w e jj m m' n h kd s1 : Nat} {LC LR : List Ty} {W : Nat → Ty} {A : Nat → Option Ty} {TE : Nat → Ty} {BD : Nat → List Ty} {Mc Mm Mc' Mm' M : sm_M} {D : sm_D} {a b c f T x x' y y' z z' x1 x3 x9 x11 x13 : Int32} {t ta tb : Ty} {o1 o2 o3 ox : Option Ty}
theorem c_B5O (hg : [p] ∈ gC) (hp : 40 ≤ p) (hL0 : L[0]? = some tyN) (hO : wOc p B L LC N mV M) : cOv p B L LC N mV [d0, d1, d2, d3, p] (cB5 p d0 d1 d2 d3 M) := by
  unfold cB5
  refine cOv.puts hg hp hO (fun i hi => ?_) (fun M' hO' => cOv.ret hO' (ox := some tyN) (Or.inr ⟨0, tyN, rfl, hO'.tn hL0, nI_0.symm⟩))
  simp only [List.mem_cons, List.not_mem_nil, or_false] at hi
  rcases hi with rfl | rfl | rfl | rfl
  · exact ⟨show (5 : Nat) ≤ 12 by decide, fun q => absurd q (show ¬ (5 : Nat) = 7 by decide)⟩
  · exact ⟨show (5 : Nat) ≤ 12 by decide, fun q => absurd q (show ¬ (5 : Nat) = 7 by decide)⟩
  · exact ⟨show (8 : Nat) ≤ 12 by decide, fun q => absurd q (show ¬ (8 : Nat) = 7 by decide)⟩
  · exact ⟨show (11 : Nat) ≤ 12 by decide, fun q => absurd q (show ¬ (11 : Nat) = 7 by decide)⟩
theorem c_B4O (hg : [p] ∈ gC) (hp : 40 ≤ p) (hL0 : L[0]? = some tyN) (hO : wOc p B L LC N mV M) : cOv p B L LC N mV [d0, d1, d2, d3, p] (cB4 p d0 d1 d2 d3 f x13 M) := by
  unfold cB4
  rw [ga_in hg, w_wrO hO (by decide), bi_some, dq_self]
  exact c_B5O hg hp hL0 hO
theorem wJ_4 {a b c : Int32} : ∀ i, i ∈ [((4 : Nat), a, b, c, c)] → wJ LC i := fun i hi => by
  rw [List.mem_singleton.mp hi]
  exact ⟨show (4 : Nat) ≤ 12 by decide, fun q => absurd q (show ¬ (4 : Nat) = 7 by decide)⟩
theorem c_B3O (hg : [p] ∈ gC) (hp : 40 ≤ p) (hL0 : L[0]? = some tyN) (hO : wOc p B L LC N mV M) : cOv p B L LC N mV [d0, d1, d2, d3, p] (cB3 p d0 d1 d2 d3 e x11 x1 M) := by
  unfold cB3
  refine cOv.puts hg hp hO wJ_4 (fun M' hO' => ?_)
  rw [ga_in hg, c_extO hO', bi_some, dq_self]
  exact c_B4O hg hp hL0 hO'
theorem c_B2O (hg : [p] ∈ gC) (hp : 40 ≤ p) (hL0 : L[0]? = some tyN) (hO : wOc p B L LC N mV M) : cOv p B L LC N mV [d0, d1, d2, d3, p] (cB2 p d0 d1 d2 d3 e x9 x3 x1 M) := by
  unfold cB2
  rw [ga_in hg, c_extO hO, bi_some, dq_self]
  exact c_B3O hg hp hL0 hO
theorem c_B1O (hg : [p] ∈ gC) (hp : 40 ≤ p) (hL0 : L[0]? = some tyN) (hO : wOc p B L LC N mV M) : cOv p B L LC N mV [d0, d1, d2, d3, p] (cB1 p d0 d1 d2 d3 e x T x3 x1 M) := by
  unfold cB1
  rw [ga_in hg, c_extO hO, bi_some, dq_self]
  exact cOv.puts hg hp hO wJ_4 (fun M' hO' => c_B2O hg hp hL0 hO')
/-- the reference, where it does not fit -/
def rOv (Bm : sm_M) (LM0 LR : List Ty) (r w v : Nat) (M : sm_M) : Prop := wOr Bm LM0 LR M ∧ M 1 49 = nI r ∧ M 1 50 = nI w ∧ M 1 51 = nI v ∧ ∃ o, ty_pr LR (M 42 v) o
theorem r_growP (hO : rOv Bm LM0 LR r w v M) (hl : LR.length < 3000) (hw : w < 1200) (hv : v < 1200) (h2 : ty_pr LR x o2) {bn : Int32} (hbn : bn = 0 ∨ bn = 1) : ∃ K M', jR_grow x bn [] M = some (0, [], M') ∧ rOv Bm LM0 (LR ++ K) r (w + 1) w M' ∧ K.length ≤ 1 := by
  obtain ⟨hO, h49, h50, h51, o1, h1⟩ := hO
  have hb2 : ∀ {ρ : Type} {q : Option ρ}, sm_bo bn q = q := by
    intro ρ q
    rcases hbn with rfl | rfl
    · exact bo_0
    · exact bo_1
  have kw : ∀ {ρ : Type} {q : Option ρ}, sm_ck (nI w) 1200 q = q := ck_nI hw (by decide)
  have cw : (nI w).toNatClampNeg = w := nI_clamp (by omega)
  have kv : ∀ {ρ : Type} {q : Option ρ}, sm_ck (nI v) 1200 q = q := ck_nI hv (by decide)
  have cv : (nI v).toNatClampNeg = v := nI_clamp (by omega)
  have oY : ∀ q, q ≠ 40 → q ≠ 41 → q ≠ 43 → sm_up (sm_up (sm_up M 40 w (nI v)) 41 w x) 43 w bn q = M q := fun q a b c => by rw [up_ne c, up_ne b, up_ne a]
  have y1 := oY 1 (by decide) (by decide) (by decide)
  have y42 := oY 42 (by decide) (by decide) (by decide)
  have hOY : wOr Bm LM0 LR (sm_up (sm_up (sm_up M 40 w (nI v)) 41 w x) 43 w bn) := wOr_w hO (fun q a b => oY q (by omega) (by omega) (by omega)) (fun j _ => by rw [y1])
  obtain ⟨w', K, M2, e1, e2, e3, e4, e5, e6⟩ := r_findO (n := 1) (z := -1) hOY hl (by decide) h1 h2 m1n
  have e1' : jR_find 1 (M 42 v) x (-1) [] (sm_up (sm_up (sm_up M 40 w (nI v)) 41 w x) 43 w bn) = some (w', [], M2) := e1
  have z50 : M2 1 50 = nI w := by rw [e5 50 (by decide), y1]; exact h50
  have om : ∀ q, q ≠ 1 → q ≠ 42 → sm_up (sm_up (sm_up M2 42 w w') 1 51 (nI w)) 1 50 (nI (w + 1)) q = M2 q := fun q a b => by rw [up_ne a, up_ne a, up_ne b]
  have om1 : ∀ j, j ≠ 50 → j ≠ 51 → sm_up (sm_up (sm_up M2 42 w w') 1 51 (nI w)) 1 50 (nI (w + 1)) 1 j = M2 1 j := fun j a b => by rw [up_as a, up_as b, up_ne (by decide)]
  refine ⟨K, sm_up (sm_up (sm_up M2 42 w w') 1 51 (nI w)) 1 50 (nI (w + 1)), ?_, ⟨wOr_w e3 (fun q a b => om q a (by omega)) (fun j hj => om1 j (by omega) (by omega)), by rw [om1 49 (by decide) (by decide), e5 49 (by decide), y1]; exact h49, up_at, by rw [up_as (by decide), up_at], _, by rw [up_ne (show (42 : Nat) ≠ 1 by decide), up_ne (show (42 : Nat) ≠ 1 by decide), up_at]; exact e2⟩, e6⟩
  unfold jR_grow
  simp only [sm_wr]
  rw [h50, kw, cw, h51, up_ne (show (1 : Nat) ≠ 40 by decide), h50, kw, cw, up_ne (show (1 : Nat) ≠ 41 by decide), up_ne (show (1 : Nat) ≠ 40 by decide), h50, kw, cw, hb2, y1, h51, kv, cv, y42, e1', bi_some, dq_self, h50, kw, cw, up_ne (show (1 : Nat) ≠ 42 by decide), z50, up_as (show (50 : Nat) ≠ 51 by decide), up_ne (show (1 : Nat) ≠ 42 by decide), z50, nI_1]
theorem r_B5O (hO : wOr Bm LM0 LR M) (h1 : 1 ≤ r) (hr : r ≤ 400) (h49 : M 1 49 = nI r) : ∃ M', rB5 M = some (0, [], M') ∧ wOr Bm LM0 LR M' := by
  obtain ⟨s, rfl⟩ : ∃ s, r = s + 1 := ⟨r - 1, by omega⟩
  have hO' : wOr Bm LM0 LR (sm_up M 1 49 (nI s)) := wOr_w hO (fun q a _ => up_ne a) (fun j hj => up_as (by omega))
  refine ⟨_, ?_, hO'⟩
  unfold rB5
  rw [r_done (by omega) h49, bi_some, dq_self, r_putsO hO'.2.2.1]
theorem r_B4O (hO : wOr Bm LM0 LR M) (h1 : 1 ≤ r) (hr : r ≤ 400) (h49 : M 1 49 = nI r) : ∃ M', rB4 e M = some (0, [], M') ∧ wOr Bm LM0 LR M' := by
  have hO' : wOr Bm LM0 LR (rLa (sm_up M 1 48 0) 0 0 (M 14 e) 0) := wOr_w (wOr_w hO (fun q a _ => up_ne a) (fun j hj => up_as (by omega))) (fun q a b => rLa_o a (by omega)) (fun j hj => rLa_1 (by omega))
  obtain ⟨M', e1, e2⟩ := r_B5O (r := r) hO' h1 hr (by rw [rLa_1 (by decide), up_as (by decide)]; exact h49)
  refine ⟨M', ?_, e2⟩
  unfold rB4 jR_writeAll
  simp only [sm_wr]
  rw [r_later (k := 0) (by decide) (by rw [up_at, nI_0]), bi_some, dq_self, w_stop hO'.2.2.1, bi_some, dq_self]
  exact e1
theorem r_B3O (hO : rOv Bm LM0 LR r w v M) (hl : LR.length < 3000) (hw : w < 1200) (hv : v < 1200) (h3 : ty_pr LR (M 3 jj) o2) (h1 : 1 ≤ r) (hr : r < 400) : ∃ LR' M', rB3 e jj M = some (0, [], M') ∧ wOr Bm LM0 LR' M' := by
  have hO1 : rOv Bm LM0 LR r w v (sm_up (rPu M r (M 3 jj)) 1 49 (nI r)) := by
    obtain ⟨a1, a2, a3, a4, o, a5⟩ := hO
    have q1 : ∀ q, q ≠ 1 → q ≠ 39 → sm_up (rPu M r (M 3 jj)) 1 49 (nI r) q = M q := fun q a b => by rw [up_ne a, rPu_o a b]
    have q2 : ∀ j, j ≠ 49 → sm_up (rPu M r (M 3 jj)) 1 49 (nI r) 1 j = M 1 j := fun j a => by rw [up_as a, rPu_1 a]
    exact ⟨wOr_w a1 (fun q a b => q1 q a (by omega)) (fun j hj => q2 j (by omega)), up_at, by rw [q2 50 (by decide)]; exact a3, by rw [q2 51 (by decide)]; exact a4, o, by rw [q1 42 (by decide) (by decide)]; exact a5⟩
  obtain ⟨K, M', e1, e2, -⟩ := r_growP (bn := 1) hO1 hl hw hv h3 (Or.inr rfl)
  have hpush : jR_push 1 [] (rPu M r (M 3 jj)) = some (0, [], M') := by
    unfold jR_push
    rw [em_ov (show rPu M r (M 3 jj) 1 47 = 1 by rw [rPu_1 (by decide)]; exact hO.1.2.2.1), bi_some, dq_self, r_done hr rPu_49, bi_some, dq_self, rPu_39, upd_at, e1, bi_some, dq_self]
  obtain ⟨M2, f1, f2⟩ := r_B4O (e := e) e2.1 h1 (by omega) e2.2.1
  refine ⟨_, M2, ?_, f2⟩
  unfold rB3
  rw [r_fin hr hO.2.1, bi_some, dq_self, hpush, bi_some, dq_self]
  exact f1
theorem r_B2O (hO : rOv Bm LM0 LR r w v M) (hl : LR.length < 2998) (hw : w < 1199) (hv : v < 1200) (hj : LR[jj]? = some (tyF ta tb)) (hx : ty_pr LR x1 o2) (h1 : 1 ≤ r) (hr : r < 400) : ∃ LR' M', rB2 e jj x1 M = some (0, [], M') ∧ wOr Bm LM0 LR' M' := by
  obtain ⟨K, M', e1, e2, e3⟩ := r_growP (bn := 0) hO (by omega) (by omega) hv hx (Or.inl rfl)
  have hj' : (LR ++ K)[jj]? = some (tyF ta tb) := by rw [List.getElem?_append_left (List.getElem?_eq_some_iff.mp hj).1]; exact hj
  obtain ⟨-, -, h3, -⟩ := e2.1.1.row hj'
  obtain ⟨LR', M2, f1, f2⟩ := r_B3O (e := e) e2 (by rw [List.length_append]; omega) (by omega) (by omega) h3 h1 hr
  refine ⟨LR', M2, ?_, f2⟩
  unfold rB2
  rw [e1, bi_some, dq_self]
  exact f1
theorem r_B1O (hO : rOv Bm LM0 LR r w v M) (hl : LR.length < 2997) (hw : w < 1198) (hv : v < 1200) (hj : LR[jj]? = some (tyF ta tb)) (hx : ty_pr LR x1 o2) (h1 : 1 ≤ r) (hr : r < 400) : ∃ LR' M', rB1 e jj x1 M = some (0, [], M') ∧ wOr Bm LM0 LR' M' := by
  obtain ⟨K, M', e1, e2, e3⟩ := r_growP (bn := 1) (x := nI jj) (o2 := some (tyF ta tb)) hO (by omega) (by omega) hv (Or.inr ⟨jj, _, rfl, hj, rfl⟩) (Or.inr rfl)
  have hj' : (LR ++ K)[jj]? = some (tyF ta tb) := by rw [List.getElem?_append_left (List.getElem?_eq_some_iff.mp hj).1]; exact hj
  obtain ⟨LR', M2, f1, f2⟩ := r_B2O (e := e) e2 (by rw [List.length_append]; omega) (by omega) (by omega) hj' hx.grow h1 hr
  refine ⟨LR', M2, ?_, f2⟩
  unfold rB1
  rw [e1, bi_some, dq_self, r_putsO e2.1.2.2.1]
  exact f1
end
