/-! a constructor's row of new arrays, by a list -/
abbrev ca_R : Type := Nat × Nat × Int32 × Bool × Bool × Nat × Nat × Nat × Nat
abbrev ca_k (r : ca_R) : Nat := r.1
abbrev ca_n (r : ca_R) : Nat := r.2.1
abbrev ca_ni (r : ca_R) : Int32 := r.2.2.1
abbrev ca_z (r : ca_R) : Bool := r.2.2.2.1
abbrev ca_s (r : ca_R) : Bool := r.2.2.2.2.1
abbrev ca_pc (r : ca_R) : Nat := r.2.2.2.2.2.1
abbrev ca_p2 (r : ca_R) : Nat := r.2.2.2.2.2.2.1
abbrev ca_idx (r : ca_R) : Nat := r.2.2.2.2.2.2.2.1
abbrev ca_fi (r : ca_R) : Nat := r.2.2.2.2.2.2.2.2
def ca_ok (cc : ByteArray) (C : String) (T : u_T) (nF : Nat) (r : ca_R) : Bool :=
  decide (decode cc (ca_pc r) = .ok (.aload_n 0, 1)) && (if (ca_s r) then decide (decode cc ((ca_pc r) + 1) = .ok (.sipush (ca_n r), 3)) && decide ((ca_pc r) + 1 + 3 = (ca_p2 r)) && decide ((Int16.ofInt (ca_n r)).toInt32 = (ca_ni r)) else decide (decode cc ((ca_pc r) + 1) = .ok (.bipush (ca_n r), 2)) && decide ((ca_pc r) + 1 + 2 = (ca_p2 r)) && decide ((Int8.ofInt (ca_n r)).toInt32 = (ca_ni r)))
  && decide (decode cc (ca_p2 r) = .ok (.newarray (if (ca_z r) then .boolean else .int), 2)) && decide (decode cc ((ca_p2 r) + 2) = .ok (.putfield (ca_idx r), 3))
  && decide (¬ (ca_ni r) < 0) && decide ((ca_ni r).toNatClampNeg = (ca_n r)) && decide ((ca_n r) ≤ 3000) && decide ((ca_k r) < nF)
  && decide (lw_tbl[(ca_fi r)]? = some (Cond.fieldLink C (ca_idx r) C (T (ca_k r)).2.1 (T (ca_k r)).2.2.1)) && goodWord (Cond.fieldLink C (ca_idx r) C (T (ca_k r)).2.1 (T (ca_k r)).2.2.1)
  && decide ((T (ca_k r)).1 = C) && decide (parseFieldDescriptor (T (ca_k r)).2.2.1 = some (.array (if (ca_z r) then .boolean else .int)))
def ca_ch : Nat → List ca_R → Nat
  | pc, [] => pc
  | pc, r :: L => if (ca_pc r) = pc then ca_ch ((ca_p2 r) + 5) L else 0
def ca_sum : List ca_R → Nat
  | [] => 0
  | r :: L => (ca_n r) + ca_sum L
def ca_fs : List ca_R → List Nat → List Value → List Value
  | r :: L, q :: qs, fs => ca_fs L qs (fs.set (ca_k r) (.ref q))
  | _, _, fs => fs
def ca_as (cI cZ : ClassId) : List ca_R → List Nat → va_W
  | r :: L, q :: qs => (q, .inl ((if (ca_z r) then cZ else cI), (ca_n r), .inl (fun _ => 0))) :: ca_as cI cZ L qs
  | _, _ => []
section
variable {p : Program} {l : Launch} {e : Env} {R : Room} {s : State} {m : MethodId} {args : Array Value} {below : List Frame} {meth : Method} {c : Code} {H0 : Heap} {Q : State → Prop}
variable {cc : ByteArray} {D : va_G} {A : Nat → Prop} {ls : Array Slot} {cI cZ : ClassId}
theorem ca_run {o ci nF : Nat} {C : String} {T : u_T} {pe : Nat} (hpe : pe ≠ 0) (hc : smCl[ci]? = some (C, T, nF)) (hI : Cond.arrayClass (newarray.typeOf .int) ∈ smT) (hZ : Cond.arrayClass (newarray.typeOf .boolean) ∈ smT) (X : cs_Cx cc C D cI cZ A H0 p s m args meth c) (hl : ls[0]? = some (.val (.ref o))) :
    ∀ (L : List ca_R) (pc cells slots : Nat) (H : Heap) (locs : List Loc) (fs : List Value) (arrs : va_W), L.all (ca_ok cc C T nF) = true → ca_ch pc L = pe → fs.length = nF → va_P D smCl ((o, .inr (ci, fs)) :: arrs) H → va_D A ((o, .inr (ci, fs)) :: arrs) → va_S A H0 H locs → cells + L.length ≤ R.cells → slots + ca_sum L ≤ R.slots →
      (∀ (qs : List Nat) (H1 : Heap) (locs1 : List Loc), qs.length = L.length → va_P D smCl ((o, .inr (ci, ca_fs L qs fs)) :: (arrs ++ ca_as cI cZ L qs)) H1 → va_D A ((o, .inr (ci, ca_fs L qs fs)) :: (arrs ++ ca_as cI cZ L qs)) → va_S A H0 H1 locs1 → W p l e R s m args below meth c H1 locs1 (cells + L.length) (slots + ca_sum L) Q (F0 m pe ls [])) →
      W p l e R s m args below meth c H locs cells slots Q (F0 m pc ls [])
  | [], pc, cells, slots, H, locs, fs, arrs, _, hch, hf, hP, hD, hS, _, _, kk => by
    replace hch : pc = pe := hch
    subst hch
    refine kk [] H locs rfl ?_ ?_ hS
    · show va_P D smCl ((o, .inr (ci, fs)) :: (arrs ++ [])) H
      rw [List.append_nil]; exact hP
    · show va_D A ((o, .inr (ci, fs)) :: (arrs ++ []))
      rw [List.append_nil]; exact hD
  | r :: L, pc, cells, slots, H, locs, fs, arrs, hok, hch, hf, hP, hD, hS, hce, hsl, kk => by
    rw [List.all_cons, Bool.and_eq_true] at hok
    obtain ⟨hr, hok⟩ := hok
    replace hch : (if (ca_pc r) = pc then ca_ch ((ca_p2 r) + 5) L else 0) = pe := hch
    by_cases hpc : (ca_pc r) = pc
    · rw [if_pos hpc] at hch
      subst hpc
      simp only [ca_ok, Bool.and_eq_true, decide_eq_true_eq] at hr
      obtain ⟨⟨⟨⟨⟨⟨⟨⟨⟨⟨⟨d1, d2⟩, d3⟩, d4⟩, h0⟩, hni⟩, hn⟩, hk⟩, hlk⟩, hg⟩, hT1⟩, hty⟩ := hr
      rw [List.length_cons] at hce
      replace hsl : slots + ((ca_n r) + ca_sum L) ≤ R.slots := hsl
      refine cs_arr (z := (ca_z r)) (n := (ca_n r)) (ni := (ca_ni r)) (k := (ca_k r)) (p2 := (ca_p2 r)) (idx := (ca_idx r)) X hP hD hS hl d1 d3 d4 ?_ h0 hni hn (by omega) (by omega) hc hk hf (sm_mem1 (ca_fi r) hlk hg) hT1 rfl hty ?_ ?_
      · intro st h
        cases hs : (ca_s r) with
        | true =>
          rw [hs] at d2
          simp only [if_true, Bool.and_eq_true, decide_eq_true_eq] at d2
          obtain ⟨⟨a, b⟩, c'⟩ := d2
          exact lv_sipush X.1 X.2.1 a c' (by rw [b]; exact h)
        | false =>
          rw [hs] at d2
          simp only [Bool.false_eq_true, if_false, Bool.and_eq_true, decide_eq_true_eq] at d2
          obtain ⟨⟨a, b⟩, c'⟩ := d2
          exact lv_bipush X.1 X.2.1 a c' (by rw [b]; exact h)
      · cases (ca_z r) with
        | true => exact hZ
        | false => exact hI
      · intro q H1 locs1 hP1 hD1 hS1
        refine ca_run hpe hc hI hZ X hl L ((ca_p2 r) + 5) (cells + 1) (slots + (ca_n r)) H1 locs1 _ _ hok hch (by rw [List.length_set]; exact hf) hP1 hD1 hS1 (by omega) (by omega) ?_
        intro qs H2 locs2 hq hP2 hD2 hS2
        have e1 : cells + 1 + L.length = cells + (r :: L).length := by rw [List.length_cons]; omega
        have e2 : slots + (ca_n r) + ca_sum L = slots + ca_sum (r :: L) := by show _ = slots + ((ca_n r) + ca_sum L); omega
        rw [e1, e2]
        refine kk (q :: qs) H2 locs2 (by rw [List.length_cons, List.length_cons, hq]) ?_ ?_ hS2
        · rw [List.append_assoc] at hP2; exact hP2
        · rw [List.append_assoc] at hD2; exact hD2
    · rw [if_neg hpc] at hch
      exact absurd hch.symm hpe
end
