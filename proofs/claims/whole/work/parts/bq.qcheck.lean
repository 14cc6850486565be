/-! check, the call -/
theorem hid_free : ∀ L : List Ty, ∃ H, ∀ m, H ≤ m → ty_hid m ∉ L
  | [] => ⟨0, fun m _ q => by cases q⟩
  | t :: r => by
    obtain ⟨H, h⟩ := hid_free r
    by_cases g : ∃ n, t = ty_hid n
    · obtain ⟨n, rfl⟩ := g
      refine ⟨max H (n + 1), fun m hm q => ?_⟩
      have h1 : H ≤ m := Nat.le_trans (Nat.le_max_left _ _) hm
      have h2 : n + 1 ≤ m := Nat.le_trans (Nat.le_max_right _ _) hm
      rcases List.mem_cons.mp q with q | q
      · have := ty_hid_inj q
        omega
      · exact h m h1 q
    · refine ⟨H, fun m hm q => ?_⟩
      rcases List.mem_cons.mp q with q | q
      · exact g ⟨m, q.symm⟩
      · exact h m hm q
/-- the returns of a list's functions -/
def ty_rr (t : Ty) : Ty := match ty_p2 t with
  | some b => tyR b
  | none => tyN
theorem rr_mem {L : List Ty} {a b : Ty} (h : tyF a b ∈ L) : tyR b ∈ L.map ty_rr := List.mem_map.mpr ⟨tyF a b, h, rfl⟩
section
variable {pV : pVt} {p d1 d3 d4 nB nC n : Nat} {L LM : List Ty} {W : Nat → Ty} {A : Nat → Option Ty} {Mc Mm N Mc' : sm_M}
theorem rl_chk (hp : (p = 40 ∧ d1 = 50) ∨ (p = 50 ∧ d1 = 40)) (h : rl pV p L LM nC nB W A Mc Mm) (hc : tabC Mc' L) (hco : ∀ q, 8 < q → q ≠ 32 → Mc' q = Mc q) (hm : tabM N LM) (hG : ∀ q, 6 < q → q ≠ 53 → N q = Mm q) (h1 : ∀ j, j ≠ 1 → N 1 j = Mm 1 j) : rl pV p L LM nC nB W A Mc' N := by
  obtain ⟨⟨a1, a2, a3, a4, a5, a6, a7, a8, a9, a10⟩, r2, r3, r4, r5⟩ := h
  refine ⟨⟨hc, a2, a3, a4, hm, a6, a7, by rw [h1 7 (by decide)]; exact a8, by rw [hG 7 (by decide) (by decide)]; exact a9, fun i hi => ?_⟩, r2.o (fun q a b => hco q (by omega) (by omega)) (fun q a b => hG q (by omega) (by omega)) (h1 13 (by decide)), ?_, ?_, r5.o (fun q a b => hco q (by omega) (by omega)) (fun q hq => hG q (by omega) (by omega)) (fun j a b => h1 j (by omega))⟩
  · have hg : L[i]? = some L[i] := List.getElem?_eq_getElem hi
    obtain ⟨m, o1, o2, o3, et⟩ := tyok_mk (a4 _ (List.mem_of_getElem? hg)).1
    rw [et] at hg
    obtain ⟨e2, e3, e4, e5⟩ := tab_same (K := []) a1 (by rw [List.append_nil]; exact hc) hg
    rw [e2, e3, e4, e5, hG 8 (by decide) (by decide), hG 9 (by decide) (by decide), hG 10 (by decide) (by decide), hG 11 (by decide) (by decide)]
    exact a10 i hi
  · rw [h1 29 (by decide), hco 18 (by decide) (by decide), hco 25 (by decide) (by decide)]
    exact r3
  · have hp40 : 40 ≤ p := by rcases hp with ⟨q, -⟩ | ⟨q, -⟩ <;> rw [q] <;> decide
    exact r4.o (fun q a b => hco q (by omega) (by omega)) (fun q a b => hG q (by omega) (by omega)) (h1 37 (by decide)) (h1 38 (by decide)) (h1 39 (by decide))
/-- the reference's verdict -/
theorem r_verdict (h : rl pV p L LM nC nB W A Mc (sm_up Mm 1 0 0)) : ∃ (v : Int32) (M' : sm_M), jR_check [] Mm = some (v, [], M') ∧ pVV nB W A (sm_up Mm 1 0 0 29) (sm_up Mm 1 0 0 30) (sm_up Mm 1 0 0 31) (sm_up Mm 1 0 0 32) (sm_up Mm 1 0 0 33) (sm_up Mm 1 0 0 34) v ∧ rZ (sm_up Mm 1 0 0) LM LM M' := by
  obtain ⟨⟨a1, a2, a3, a4, a5, a6, a7, -⟩, -, -, ⟨c1, c2, c3, c4, c5, c6, c7, c8, c9, c10, c11⟩, -⟩ := h
  have hC : rC (sm_up Mm 1 0 0) LM nB nC W A := ⟨c1, c2, c6, fun i hi => by
    obtain ⟨e1, e2, e3, e4, e5, e6⟩ := c8 i hi
    exact ⟨fun q => ⟨(e6 q).1, (e6 q).2.2⟩, e4⟩, fun k hk => (c10 k hk).1⟩
  have hB : rB (sm_up Mm 1 0 0) nB nC := fun b hb => by
    obtain ⟨s, l, q0, q1, q2, q3, q4⟩ := c9 b hb
    exact ⟨s, l, q0, q2, q4⟩
  obtain ⟨H, hH⟩ := hid_free LM
  have hM : rZ (sm_up Mm 1 0 0) LM LM (sm_up Mm 1 0 0) := ⟨a5, ⟨[], (List.append_nil _).symm⟩, fun _ _ _ => rfl, fun _ _ => rfl⟩
  obtain ⟨v, M', k1, k2, k3⟩ := r_kcheck hC hB hH a7 (by omega) hM
  refine ⟨v, M', k1, ⟨H, fun h hh => ?_⟩, k3⟩
  obtain ⟨v', M2, k1', k2', -⟩ := r_kcheck hC hB (fun m hm => hH m (Nat.le_trans hh hm)) a7 (by omega) hM
  rw [k1] at k1'
  have : v = v' := by injection k1' with e; injection e
  subst this
  exact k2'
/-- the class's verdict on code at p, where its table is L0 -/
theorem c_vv {d0 d2 : Nat} {L0 FR : List Ty} {o a b c st le : Nat → Int32} (hg : [p] ∈ gC) (h33 : 33 ≤ p) (hC : cC Mc L0 p nB nC W A o a b c) (hB : cB Mc p nB nC st le) (hF : ∀ a b, tyF a b ∈ L0 → tyR b ∈ FR) (h0 : L0[0]? = some tyN) (hok : ∀ t, t ∈ L0 → tyok t ∨ ∃ n, t = ty_hid n) (hcap : ∀ s l, s + l ≤ nC → L0.length + cU L0 FR + swt o s l ≤ 800) (hT : tabC Mc L0) : ∃ (v : Int32) (M' : sm_M), jK_verdictOn p d0 d1 d2 d3 d4 Mc = some (v, [d0, d1, d2, p, d4], M') ∧ pVV nB W A o a b c st le v ∧ tabC M' L0 ∧ ∀ q, 8 < q → q ≠ 32 → M' q = Mc q := by
  obtain ⟨H, hH⟩ := hid_free L0
  obtain ⟨v, M', k1, k2, k3, k4⟩ := c_verdict (d0 := d0) (d1 := d1) (d2 := d2) (d3 := d3) (d4 := d4) hg h33 hC hB (h := H) (FR := FR) ⟨hF, hH, h0, hok⟩ hcap hT
  refine ⟨v, M', k1, ⟨H, fun h hh => ?_⟩, k3, k4⟩
  obtain ⟨v', M2, k1', k2', -⟩ := c_verdict (d0 := d0) (d1 := d1) (d2 := d2) (d3 := d3) (d4 := d4) hg h33 hC hB (h := h) (FR := FR) ⟨hF, fun m hm => hH m (Nat.le_trans hh hm), h0, hok⟩ hcap hT
  rw [k1] at k1'
  have : v = v' := by injection k1' with e; injection e
  subst this
  exact k2'
theorem q_check (hp : (p = 40 ∧ d1 = 50) ∨ (p = 50 ∧ d1 = 40)) (h : rl pVV p L LM nC nB W A Mc Mm) : lc_two (jA_check p d1 p d3 d4 Mc) (jR_check [] Mm) (Rl pVV) := by
  have h' := h.up0 (v := 0)
  have hg := in_gC hp
  have hp40 : 40 ≤ p := by rcases hp with ⟨q, -⟩ | ⟨q, -⟩ <;> rw [q] <;> decide
  obtain ⟨v, M', k1, k2, ⟨z1, -, z3, z4⟩⟩ := r_verdict h'
  obtain ⟨⟨a1, a2, a3, a4, a5, a6, a7, -⟩, -, -, ⟨c1, c2, c3, c4, c5, c6, c7, c8, c9, c10, c11⟩, -⟩ := id h'
  unfold jA_check
  rcases c11 with ⟨f1, f2, f3, -⟩ | ⟨f1, f2⟩
  · have hC : cC Mc L p nB nC W A (sm_up Mm 1 0 0 29) (sm_up Mm 1 0 0 30) (sm_up Mm 1 0 0 31) (sm_up Mm 1 0 0 32) := ⟨c1, c2, c5, fun i hi => by
      obtain ⟨e1, e2, e3, e4, e5, e6⟩ := c8 i hi
      exact ⟨e1, e2, e3, fun q => (e5 q).1, fun q => ⟨f2 i hi q, (e6 q).2.2⟩, e4⟩, f3⟩
    have hB : cB Mc p nB nC (sm_up Mm 1 0 0 33) (sm_up Mm 1 0 0 34) := fun b hb => by
      obtain ⟨s, l, q0, q1, q2, q3, q4⟩ := c9 b hb
      exact ⟨s, l, q0, q1, q2, q3, q4⟩
    obtain ⟨vc, M2, j1, j2, j3, j4⟩ := c_vv (d0 := p) (d1 := d1) (d2 := p) (d3 := d3) (d4 := d4) (FR := L.map ty_rr) hg (by omega) hC hB (fun a b q => rr_mem q) a3 (fun t ht => Or.inl (a4 t ht).1) (fun s l hs => by have q1 := cU_le L (L.map ty_rr); have q2 := swt_le (o := sm_up Mm 1 0 0 29) l s; rw [List.length_map] at q1; omega) a1
    have ev := pVV_fn c2 j2 k2
    subst ev
    refine ⟨vc, [p, d1, p, p, d4], M2, M', ?_, k1, Rl.mk hp (rl_chk hp h' j3 j4 z1 z3 z4)⟩
    rw [if_pos f1, ga_in hg, j1, bi_some, dq_self]
  · have ev := pVV_fn c2 f2 k2
    subst ev
    refine ⟨Mc p 14, [p, d1, p, d3, d4], Mc, M', ?_, k1, Rl.mk hp (rl_chk hp h' a1 (fun _ _ _ => rfl) z1 z3 z4)⟩
    rw [if_neg (by rw [f1]; decide)]
end
