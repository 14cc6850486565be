/-! type, the call -/
section
variable {pV : pVt} {nB nC p d1 d3 d4 n : Nat} {L LM : List Ty} {W : Nat → Ty} {A : Nat → Option Ty} {Mc Mm N : sm_M} {D : sm_D} {k a b c x : Int32} {oa ob oc o : Option Ty}
def t8M (N : sm_M) (n : Nat) (k a b c : Int32) : sm_M := sm_up (sm_up (sm_up (sm_up N 8 n k) 9 n a) 10 n b) 11 n c
theorem t8M_o {q : Nat} (h : q < 8 ∨ 11 < q) : t8M N n k a b c q = N q := by
  unfold t8M
  rw [up_ne (by omega), up_ne (by omega), up_ne (by omega), up_ne (by omega)]
theorem t8M_8 : t8M N n k a b c 8 = upd (N 8) n k := by unfold t8M; rw [up_ne (by decide), up_ne (by decide), up_ne (by decide), sm_up_same]
theorem t8M_9 : t8M N n k a b c 9 = upd (N 9) n a := by unfold t8M; rw [up_ne (by decide), up_ne (by decide), sm_up_same, up_ne (by decide)]
theorem t8M_10 : t8M N n k a b c 10 = upd (N 10) n b := by unfold t8M; rw [up_ne (by decide), sm_up_same, up_ne (by decide), up_ne (by decide)]
theorem t8M_11 : t8M N n k a b c 11 = upd (N 11) n c := by unfold t8M; rw [sm_up_same, up_ne (by decide), up_ne (by decide), up_ne (by decide)]
theorem sz_sum (s1 s2 s3 : Nat) : (((1 : Int32) + nI s1) + nI s2) + nI s3 = nI (1 + s1 + s2 + s3) := by
  rw [← nI_add, ← nI_add, ← nI_add]; rfl
/-- the reference at the end of its rows -/
theorem r_tend {kk : Nat} (h : rlT L LM Mc N) (hk : kk < 5) (ha : ty_pr L a oa) (hb : ty_pr L b ob) (hc : ty_pr L c oc) :
    (30 < ty_sz (ty_mk kk oa ob oc) ∨ L.length = 30 → jR_type_137 (nI kk) a b c (nI L.length) [] N = some (-1, [], N)) ∧
    (¬ 30 < ty_sz (ty_mk kk oa ob oc) → L.length < 30 → ∃ (r : Nat) (K : List Ty) (M1 : sm_M), (LM ++ K)[r]? = some (ty_mk kk oa ob oc) ∧ K.length ≤ 1 ∧ tabM M1 (LM ++ K) ∧ (∀ j, j ≠ 1 → M1 1 j = N 1 j) ∧ (∀ q, 6 < q → M1 q = t8M N L.length (nI kk) a b c q) ∧ jR_type_137 (nI kk) a b c (nI L.length) [] N = some (nI L.length, [], sm_up (sm_up M1 7 L.length (nI r)) 1 7 (nI (L.length + 1)))) := by
  have h7 : N 1 7 = nI L.length := h.2.2.2.2.2.2.2.1
  have hTM := h.2.2.2.2.1
  have hl30 := h.2.1
  have hlm := h.2.2.2.2.2.1
  have sa := so_30 h ha
  have sb := so_30 h hb
  have sc := so_30 h hc
  have hsz := ty_sz_mk kk oa ob oc
  have st : jR_type_137_c (nI kk) a b c (nI L.length) [] N = (if (30 : Int32) < nI (ty_sz (ty_mk kk oa ob oc)) then (sm_inr (jR_type_248 [] N)) else (if (N 1 7) = (30 : Int32) then (sm_inr (jR_type_248 [] N)) else (sm_ck (N 1 7) 30 (sm_wr (sm_up N 8 (Int32.toNatClampNeg (N 1 7)) (nI kk)) (fun N7 => (sm_ck (N7 1 7) 30 (sm_wr (sm_up N7 9 (Int32.toNatClampNeg (N7 1 7)) a) (fun N8 => (sm_ck (N8 1 7) 30 (sm_wr (sm_up N8 10 (Int32.toNatClampNeg (N8 1 7)) b) (fun N9 => (sm_ck (N9 1 7) 30 (sm_wr (sm_up N9 11 (Int32.toNatClampNeg (N9 1 7)) c) (fun N10 => (sm_bi (jR_numberOf a [] N10) (fun x11 E11 M11 => sm_dq E11 [] (sm_bi (jR_numberOf b [] M11) (fun x12 E12 M12 => sm_dq E12 [] (sm_bi (jR_numberOf c [] M12) (fun x13 E13 M13 => sm_dq E13 [] (sm_bi (jR_find (nI kk) x11 x12 x13 [] M13) (fun x14 E14 M14 => sm_dq E14 [] (sm_ck (N10 1 7) 30 (sm_wr (sm_up M14 7 (Int32.toNatClampNeg (N10 1 7)) x14) (fun N15 => (sm_wr (sm_up N15 1 7 ((N15 1 7) + (1 : Int32))) (fun N16 => (some (.inr (((N16 1 7) - (1 : Int32)), [], N16))))))))))))))))))))))))))))) : Option ((Int32 × Int32 × Int32 × Int32 × Int32 × sm_M) ⊕ sm_S)) := by
    unfold jR_type_137_c
    rw [if_neg (by rw [h7]; exact nI_nlt (Nat.le_refl _) (by omega)), r_nmb h ha rfl, bi_some, dq_self, r_sizeOf hTM rfl (nmb_pr h ha), bi_some, dq_self, r_nmb h hb rfl, bi_some, dq_self, r_sizeOf hTM rfl (nmb_pr h hb), bi_some, dq_self, r_nmb h hc rfl, bi_some, dq_self, r_sizeOf hTM rfl (nmb_pr h hc), bi_some, dq_self, sz_sum, ← hsz]
  refine ⟨fun hq => ?_, fun h30 hl => ?_⟩
  · refine sm_lp_end ?_
    show jR_type_137_c (nI kk) a b c (nI L.length) [] N = _
    rw [st]
    by_cases h30 : 30 < ty_sz (ty_mk kk oa ob oc)
    · rw [if_pos (show (30 : Int32) < nI _ from nI_lt h30 (by omega))]; rfl
    · have e := hq.resolve_left h30
      rw [if_neg (show ¬ (30 : Int32) < nI _ from nI_nlt (a := 30) (by omega) (by decide)), h7, e, if_pos (show nI 30 = 30 from rfl)]; rfl
  · have kn : ∀ {ρ : Type} {q : Option ρ}, sm_ck (nI L.length) 30 q = q := ck_nI hl (by decide)
    have cn : (nI L.length).toNatClampNeg = L.length := nI_clamp (by omega)
    have u1 : ∀ {M : sm_M} {q j : Nat} {x : Int32}, 1 ≠ q → sm_up M q j x 1 = M 1 := fun h => up_ne h
    have ne30 : ¬ N 1 7 = 30 := by
      rw [h7]
      intro q
      have := nI_inj (by omega) (by decide) (show nI L.length = nI 30 from q)
      omega
    have hT8 : tabM (t8M N L.length (nI kk) a b c) LM := tabM_o (fun q h2 h6 => t8M_o (by omega)) (by rw [t8M_o (by decide)]) hTM
    have e7 : t8M N L.length (nI kk) a b c 7 = N 7 := t8M_o (by decide)
    have core : ∀ (r : Nat) (M1 : sm_M), jR_find (nI kk) (nmb N a) (nmb N b) (nmb N c) [] (t8M N L.length (nI kk) a b c) = some (nI r, [], M1) → (∀ j, j ≠ 1 → M1 1 j = N 1 j) → jR_type_137 (nI kk) a b c (nI L.length) [] N = some (nI L.length, [], sm_up (sm_up M1 7 L.length (nI r)) 1 7 (nI (L.length + 1))) := by
      intro r M1 hf hf1
      refine sm_lp_end ?_
      show jR_type_137_c (nI kk) a b c (nI L.length) [] N = _
      rw [st, if_neg (show ¬ (30 : Int32) < nI _ from nI_nlt (a := 30) (by omega) (by decide)), if_neg ne30]
      have e8 : sm_up (sm_up (sm_up (sm_up N 8 L.length (nI kk)) 9 L.length a) 10 L.length b) 11 L.length c = t8M N L.length (nI kk) a b c := rfl
      have e17 : M1 1 7 = nI L.length := (hf1 7 (by decide)).trans h7
      simp only [sm_wr, h7, kn, cn, u1 (show (1 : Nat) ≠ 8 by decide), u1 (show (1 : Nat) ≠ 9 by decide), u1 (show (1 : Nat) ≠ 10 by decide), u1 (show (1 : Nat) ≠ 11 by decide), e8]
      rw [r_nmb h ha e7, bi_some, dq_self, r_nmb h hb e7, bi_some, dq_self, r_nmb h hc e7, bi_some, dq_self, hf, bi_some, dq_self, up_ne (show (1 : Nat) ≠ 7 by decide), e17, up_at, nI_1, nI_pred]
    rcases r_find (D := []) hT8 hk (nmb_pr h ha) (nmb_pr h hb) (nmb_pr h hc) (by omega) with ⟨r, hr, hf⟩ | ⟨-, M', hf, hT', hf1, hf2⟩
    · have f1 : ∀ j, j ≠ 1 → t8M N L.length (nI kk) a b c 1 j = N 1 j := fun j _ => by rw [t8M_o (by decide)]
      refine ⟨r, [], t8M N L.length (nI kk) a b c, ?_, Nat.zero_le _, ?_, f1, fun q _ => rfl, core r _ hf f1⟩
      · rw [List.append_nil]; exact hr
      · rw [List.append_nil]; exact hT8
    · have f1 : ∀ j, j ≠ 1 → M' 1 j = N 1 j := fun j hj => (hf1 j hj).trans (by rw [t8M_o (by decide)])
      refine ⟨LM.length, [ty_mk kk oa ob oc], M', by simp, Nat.le_refl _, hT', f1, hf2, core _ _ hf f1⟩
theorem q_tcore {kk : Nat} (hp : (p = 40 ∧ d1 = 50) ∨ (p = 50 ∧ d1 = 40)) (hR : rl pV p L LM nC nB W A Mc N) (h1 : 1 ≤ kk) (hk : kk < 5) (ha : ty_pr L a oa) (hb : ty_pr L b ob) (hc : ty_pr L c oc) (hok : tyok (ty_mk kk oa ob oc)) : lc_twD [p, d1, p, d3, d4] (jT_keep (nI kk) a b c [p, d1, p, d3, d4] Mc) (jR_type_137 (nI kk) a b c 1 [] N) (Rl pV) := by
  have h := hR.1
  obtain ⟨a1, a2, a3, a4, a5, a6, a7, a8, a9, a10⟩ := id h
  have sa := so_30 h ha
  have sb := so_30 h hb
  have sc := so_30 h hc
  have hsz := ty_sz_mk kk oa ob oc
  have hkeep : jT_keep (nI kk) a b c [p, d1, p, d3, d4] Mc = jT_keep_30 (nI kk) a b c (if 30 < ty_sz (ty_mk kk oa ob oc) then 0 else 1) [p, d1, p, d3, d4] Mc := by
    unfold jT_keep
    rw [j_sizeOf a1 ha, bi_some, dq_self, j_sizeOf a1 hb, bi_some, dq_self, j_sizeOf a1 hc, bi_some, dq_self, sz_sum, ← hsz]
    by_cases h30 : 30 < ty_sz (ty_mk kk oa ob oc)
    · rw [if_pos (show (30 : Int32) < nI _ from nI_lt h30 (by omega)), if_pos h30]
    · rw [if_neg (show ¬ (30 : Int32) < nI _ from nI_nlt (a := 30) (by omega) (by decide)), if_neg h30]
  have hrows : ∀ i, i < L.length → (trow8 N i (nI kk) a b c ↔ trow Mc i (nI kk) a b c) := by
    intro i hi
    obtain ⟨e1, e2, e3, e4⟩ := a10 i hi
    unfold trow8 trow
    rw [e1, e2, e3, e4]
  have hlp := r_tloop (N := N) (D := []) (k := nI kk) (a := a) (b := b) (c := c) a2 a8 (L.length - 1) 1 (by
    have := (List.getElem?_eq_some_iff.mp a3).1
    omega)
  rw [hkeep]
  by_cases hin : ty_mk kk oa ob oc ∈ L
  · obtain ⟨r, hr⟩ := List.getElem?_of_mem hin
    have hrl := (List.getElem?_eq_some_iff.mp hr).1
    have hr1 : 1 ≤ r := by
      by_cases e : r = 0
      · subst e
        have := Option.some.inj (a3.symm.trans hr)
        have := (ty_mk_inj (show ty_mk 0 none none none = ty_mk kk oa ob oc from this)).1
        omega
      · omega
    have h56 : jT_keep_56 (nI kk) a b c [p, d1, p, d3, d4] Mc = some (nI r, [p, d1, p, d3, d4], Mc) := by
      unfold jT_keep_56
      rw [j_bucket, bi_some, dq_self]
      rcases j_search (D := [p, d1, p, d3, d4]) a1 (nI kk) a b c with ⟨r', hr', hrow, hse⟩ | ⟨hno, -⟩
      · have e := ty_nodup_at a1.2.2.1 (trow_has a1 hk ha hb hc hr' hrow) hr
        subst e
        rw [hse, bi_some, dq_self]
      · exact absurd (trow_of a1 ha hb hc hr) (hno r hrl)
    have hall : ∀ s : Int32, jT_keep_30 (nI kk) a b c s [p, d1, p, d3, d4] Mc = some (nI r, [p, d1, p, d3, d4], Mc) := by
      intro s
      unfold jT_keep_30
      by_cases q : s = 0
      · rw [if_pos q]; exact h56
      · rw [if_neg q]
        by_cases q2 : Mc 1 7 < 30
        · rw [if_pos q2]
          rcases j_find (D := [p, d1, p, d3, d4]) a1 hk ha hb hc with ⟨r', hr', hf⟩ | ⟨hno, -⟩ | ⟨hno, -⟩
          · have e := ty_nodup_at a1.2.2.1 hr' hr
            subst e
            rw [hf, bi_some, dq_self]
          · exact absurd hin hno
          · exact absurd hin hno
        · rw [if_neg q2]; exact h56
    refine ⟨nI r, Mc, N, hall _, ?_, Rl.mk hp hR⟩
    rcases hlp with ⟨r', q1, q2, q3, q4⟩ | ⟨q1, -⟩
    · have e := ty_nodup_at a1.2.2.1 (trow_has a1 hk ha hb hc q2 ((hrows r' q2).mp q3)) hr
      subst e
      exact q4
    · exact absurd ((hrows r hrl).mpr (trow_of a1 ha hb hc hr)) (q1 r hr1 hrl)
  · have hno : ∀ j, j < L.length → ¬ trow Mc j (nI kk) a b c := fun j hj q => hin (List.mem_of_getElem? (trow_has a1 hk ha hb hc hj q))
    have h56 : jT_keep_56 (nI kk) a b c [p, d1, p, d3, d4] Mc = some (-1, [p, d1, p, d3, d4], Mc) := by
      unfold jT_keep_56
      rw [j_bucket, bi_some, dq_self]
      rcases j_search (D := [p, d1, p, d3, d4]) a1 (nI kk) a b c with ⟨r', hr', hrow, -⟩ | ⟨-, hse⟩
      · exact absurd hrow (hno r' hr')
      · rw [hse, bi_some, dq_self]
    have hloop : jR_type_137 (nI kk) a b c 1 [] N = jR_type_137 (nI kk) a b c (nI L.length) [] N := by
      rcases hlp with ⟨r', q1, q2, q3, -⟩ | ⟨-, q⟩
      · exact absurd ((hrows r' q2).mp q3) (hno r' q2)
      · exact q
    obtain ⟨t1, t2⟩ := r_tend h hk ha hb hc
    rw [hloop]
    unfold jT_keep_30
    by_cases h30 : 30 < ty_sz (ty_mk kk oa ob oc)
    · refine ⟨-1, Mc, N, ?_, t1 (Or.inl h30), Rl.mk hp hR⟩
      rw [if_pos h30, if_pos rfl]; exact h56
    · rw [if_neg h30, if_neg (show ¬ (1 : Int32) = 0 by decide), a1.2.1]
      by_cases hl : L.length < 30
      · rw [if_pos (show nI L.length < (30 : Int32) from nI_lt (b := 30) hl (by decide))]
        obtain ⟨r, K, M1, u1, u2, u3, u4, u5, u6⟩ := t2 h30 hl
        rcases j_find (D := [p, d1, p, d3, d4]) a1 hk ha hb hc with ⟨r', hr', -⟩ | ⟨-, -, M', hf, hT', hfr⟩ | ⟨-, e, -⟩
        · exact absurd (List.mem_of_getElem? hr') hin
        · rw [hf, bi_some, dq_self]
          refine ⟨nI L.length, M', _, rfl, u6, Rl.mk (L := L ++ [ty_mk kk oa ob oc]) (LM := LM ++ K) (nC := nC) (nB := nB) (W := W) (A := A) hp ?_⟩
          have o : ∀ q, q ≠ 1 → q ≠ 7 → sm_up (sm_up M1 7 L.length (nI r)) 1 7 (nI (L.length + 1)) q = M1 q := fun q h1 h2 => by rw [up_ne h1, up_ne h2]
          have o1 : ∀ j, j ≠ 7 → sm_up (sm_up M1 7 L.length (nI r)) 1 7 (nI (L.length + 1)) 1 j = M1 1 j := fun j hj => by rw [up_as hj, up_ne (by decide)]
          refine rl_grow hp hR ?_ hfr (fun q hq => ?_) (fun j h1 h7 => ?_)
          · have e0 := (List.getElem?_eq_some_iff.mp a3).1
            have m0 := (List.getElem?_eq_some_iff.mp a7).1
            refine ⟨hT', by simp; omega, by rw [List.getElem?_append_left e0]; exact a3, ?_, tabM_o (fun q h2 h6 => o q (by omega) (by omega)) (o1 1 (by decide)) u3, by simp; omega, by rw [List.getElem?_append_left m0]; exact a7, by rw [up_at]; simp, fun i t hi => ?_, fun i hi => ?_⟩
            · intro t ht
              rcases List.mem_append.mp ht with ht | ht
              · exact a4 t ht
              · rw [List.mem_singleton] at ht
                subst ht
                exact ⟨hok, by omega⟩
            · have e7 : sm_up (sm_up M1 7 L.length (nI r)) 1 7 (nI (L.length + 1)) 7 = upd (N 7) L.length (nI r) := by
                rw [up_ne (by decide), sm_up_same, u5 7 (by decide), t8M_o (by decide)]
              rw [e7]
              by_cases hil : i < L.length
              · rw [List.getElem?_append_left hil] at hi
                obtain ⟨r', f1, f2⟩ := a9 i t hi
                exact ⟨r', by rw [List.getElem?_append_left (List.getElem?_eq_some_iff.mp f1).1]; exact f1, by rw [upd_ne (by omega)]; exact f2⟩
              · have hi2 : i < (L ++ [ty_mk kk oa ob oc]).length := (List.getElem?_eq_some_iff.mp hi).1
                have hi3 : i = L.length := by simp at hi2; omega
                subst hi3
                have e : t = ty_mk kk oa ob oc := by simpa using hi.symm
                subst e
                exact ⟨r, u1, upd_at⟩
            · rw [o 8 (by decide) (by decide), o 9 (by decide) (by decide), o 10 (by decide) (by decide), o 11 (by decide) (by decide), u5 8 (by decide), u5 9 (by decide), u5 10 (by decide), u5 11 (by decide), t8M_8, t8M_9, t8M_10, t8M_11]
              by_cases hil : i < L.length
              · have hg : L[i]? = some L[i] := List.getElem?_eq_getElem hil
                obtain ⟨m, o1, o2, o3, e⟩ := tyok_mk (a4 _ (List.mem_of_getElem? hg)).1
                rw [e] at hg
                obtain ⟨f1, f2, f3, f4⟩ := tab_same a1 hT' hg
                rw [upd_ne (by omega), upd_ne (by omega), upd_ne (by omega), upd_ne (by omega), f1, f2, f3, f4]
                exact a10 i hil
              · have hi3 : i = L.length := by simp at hi; omega
                subst hi3
                have hnew : (L ++ [ty_mk kk oa ob oc])[L.length]? = some (ty_mk kk oa ob oc) := by simp
                obtain ⟨-, f1, f2, f3, f4⟩ := hT'.row hnew
                have nd := hT'.2.2.1
                rw [upd_at, upd_at, upd_at, upd_at, f1]
                exact ⟨rfl, ty_pr.inj nd ha.grow f2, ty_pr.inj nd hb.grow f3, ty_pr.inj nd hc.grow f4⟩
          · rw [o q (by omega) (by omega), u5 q (by omega), t8M_o (by omega)]
          · rw [o1 j h7, u4 j h1]
        · omega
      · refine ⟨-1, Mc, N, ?_, t1 (Or.inr (by omega)), Rl.mk hp hR⟩
        rw [if_neg (show ¬ nI L.length < (30 : Int32) from nI_nlt (b := 30) (by omega) (by omega))]; exact h56
end
