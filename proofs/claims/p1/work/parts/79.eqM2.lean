/-! the reference's cells behind its row of new arrays -/
def kw_sl : List (Nat × Nat) := [(0, 0), (0, 0), (1, 0), (1, 0), (1, 0), (1, 0), (1, 0), (0, 0), (1, 0), (1, 0), (1, 0), (1, 0), (1, 0), (0, 0), (1, 0), (1, 0), (1, 0), (1, 0), (1, 0), (1, 0), (0, 0), (0, 0), (0, 0), (1, 0), (1, 0), (1, 0), (1, 0), (1, 0), (1, 0), (0, 0), (0, 0), (0, 0), (1, 0), (1, 0), (1, 0), (1, 0), (1, 0), (3, 0), (0, 0), (0, 0), (1, 0), (1, 0), (1, 0), (1, 0), (1, 0), (1, 0), (1, 0), (3, 0), (0, 0), (0, 0), (0, 0), (0, 0), (0, 0), (0, 0), (0, 0), (1, 0), (1, 0), (1, 0), (1, 0), (1, 0), (1, 0), (1, 0), (1, 0), (1, 0), (1, 0), (1, 0), (0, 0), (0, 0), (0, 0), (0, 0), (1, 0), (1, 0), (1, 0), (1, 0), (1, 0), (1, 0), (1, 0), (1, 0), (1, 0), (1, 0), (1, 0), (1, 0), (1, 0), (1, 0)]
def kw_fs : List Value := [.int 0, .int 0, .null, .null, .null, .null, .null, .int 0, .null, .null, .null, .null, .null, .int 0, .null, .null, .null, .null, .null, .null, .int 0, .int 0, .int 0, .null, .null, .null, .null, .null, .null, .int 0, .int 0, .int 0, .null, .null, .null, .null, .null, .int 0, .int 0, .int 0, .null, .null, .null, .null, .null, .null, .null, .int 0, .int 0, .int 0, .int 0, .int 0, .int 0, .int 0, .int 0, .null, .null, .null, .null, .null, .null, .null, .null, .null, .null, .null, .int 0, .int 0, .int 0, .int 0, .null, .null, .null, .null, .null, .null, .null, .null, .null, .null, .null, .null, .null, .null]
def ca_fsS : List ca_R → Nat → List (Nat × Nat) → List (Nat × Nat)
  | [], _, sl => sl
  | r :: L, j, sl => ca_fsS L (j + 1) (sl.set (ca_k r) (1, j))
def ca_shS (r : ca_R) : sm_Sh := ((if ca_z r then 1 else 0), ca_n r, [])
theorem ca_shE : shM = (2, 9, ca_fsS kw_L 2 kw_sl) :: kw_L.map ca_shS := by decide +kernel
theorem ca_mset {ad : Nat → Nat} {Dd : sm_D} {f : Nat → Int32} {sl : List (Nat × Nat)} {k j q : Nat} (hj : j ≠ 0) (ha : ad j = q) :
    (sl.mapIdx (fun k t => sm_fv ad Dd f k t)).set k (.ref q) = (sl.set k (1, j)).mapIdx (fun k t => sm_fv ad Dd f k t) := by
  apply List.ext_getElem?
  intro i
  by_cases hi : i = k
  · subst hi
    by_cases hl : i < sl.length
    · rw [List.getElem?_set_self (by simpa using hl), List.getElem?_mapIdx, List.getElem?_set_self hl]
      show some _ = some (sm_cz ad (.ref j))
      cases j with
      | zero => exact absurd rfl hj
      | succ n => rw [← ha]; rfl
    · rw [List.getElem?_eq_none (by simp; omega), List.getElem?_eq_none (by simp; omega)]
  · rw [List.getElem?_set_ne (Ne.symm hi), List.getElem?_mapIdx, List.getElem?_mapIdx, List.getElem?_set_ne (Ne.symm hi)]
theorem ca_fsE {ad : Nat → Nat} {Dd : sm_D} {f : Nat → Int32} : ∀ (L : List ca_R) (qs : List Nat) (j : Nat) (sl : List (Nat × Nat)), j ≠ 0 → qs.length = L.length → (∀ i q, qs[i]? = some q → ad (j + i) = q) → ca_fs L qs (sl.mapIdx (fun k t => sm_fv ad Dd f k t)) = (ca_fsS L j sl).mapIdx (fun k t => sm_fv ad Dd f k t)
  | [], [], _, _, _, _, _ => rfl
  | [], _ :: _, _, _, _, _, _ => rfl
  | _ :: _, [], _, _, _, hq, _ => by simp at hq
  | r :: L, q :: qs, j, sl, hj, hq, ha => by
    show ca_fs L qs ((sl.mapIdx (fun k t => sm_fv ad Dd f k t)).set (ca_k r) (.ref q)) = _
    rw [ca_mset hj (ha 0 q rfl)]
    refine ca_fsE L qs (j + 1) _ (by omega) (by simpa using hq) (fun i q' h => ?_)
    rw [← ha (i + 1) q' h, Nat.add_assoc, Nat.add_comm 1 i]
theorem ca_asE {G : sm_G} {Dd : sm_D} : ∀ (L : List ca_R) (qs : List Nat) (j : Nat), qs.length = L.length → (∀ i q, qs[i]? = some q → sm_ad G (j + 1 + i) = q) → ca_mp (fun i h => (sm_ad G (i + 1), sm_ce G Dd (fun _ => 0) h)) (L.map ca_shS) j = ca_as G.2.1 G.2.2.1 L qs
  | [], [], _, _, _ => rfl
  | [], _ :: _, _, hq, _ => by simp at hq
  | _ :: _, [], _, hq, _ => by simp at hq
  | r :: L, q :: qs, j, hq, ha => by
    show (sm_ad G (j + 1), sm_ce G Dd (fun _ => 0) (ca_shS r)) :: ca_mp (fun i h => (sm_ad G (i + 1), sm_ce G Dd (fun _ => 0) h)) (L.map ca_shS) (j + 1) = (q, .inl ((if (ca_z r) then G.2.2.1 else G.2.1), (ca_n r), .inl (fun _ => 0))) :: ca_as G.2.1 G.2.2.1 L qs
    rw [ca_asE L qs (j + 1) (by simpa using hq) (fun i q' h => by rw [← ha (i + 1) q' h]; congr 1; omega)]
    have h0 : sm_ad G (j + 1) = q := ha 0 q rfl
    rw [h0]
    congr 2
    unfold ca_shS
    cases ca_z r <;> rfl
theorem ca_fs0 (ad : Nat → Nat) : kw_sl.mapIdx (fun k t => sm_fv ad [] (fun _ => 0) k t) = kw_fs := by
  rw [ca_mi0]
  rfl
theorem ca_eqM {G : sm_G} {D : va_G} {cI cZ : ClassId} {aF aP o : Nat} {qs : List Nat} (hq : qs.length = kw_L.length) (hG : cs_G D cI cZ aF aP (0 :: o :: qs) = G) : sm_ws shM G [] (fun _ _ => 0) = (o, .inr (9, ca_fs kw_L qs kw_fs)) :: ([] ++ ca_as cI cZ kw_L qs) := by
  have ho : sm_ad G (0 + 1) = o := by rw [← hG]; rfl
  have hI : G.2.1 = cI := by rw [← hG]
  have hZ : G.2.2.1 = cZ := by rw [← hG]
  have ha : ∀ i q, qs[i]? = some q → sm_ad G (2 + i) = q := by
    intro i q h
    have hi : i < 59 := by have := (List.getElem?_eq_some_iff.mp h).1; rw [hq] at this; exact this
    rw [← hG]
    show cs_ad aF aP (0 :: o :: qs) (2 + i) = q
    unfold cs_ad
    rw [if_neg (by omega), if_neg (by omega), Nat.add_comm 2 i]
    show ((0 :: o :: qs)[i + 2]?).getD 0 = q
    rw [List.getElem?_cons_succ, List.getElem?_cons_succ, h]
    rfl
  unfold sm_ws
  rw [ca_mi0, ca_shE]
  show (sm_ad G (0 + 1), sm_ce G [] (fun _ => 0) (2, 9, ca_fsS kw_L 2 kw_sl)) :: ca_mp (fun i h => (sm_ad G (i + 1), sm_ce G [] (fun _ => 0) h)) (kw_L.map ca_shS) (0 + 1) = _
  rw [ca_asE kw_L qs (0 + 1) hq (fun i q h => by rw [← ha i q h]), hI, hZ, ho]
  show (o, Sum.inr (9, (ca_fsS kw_L 2 kw_sl).mapIdx (fun k t => sm_fv (sm_ad G) [] (fun _ => 0) k t))) :: _ = _
  rw [← ca_fsE kw_L qs 2 kw_sl (by decide) hq ha, ca_fs0]
  rfl
