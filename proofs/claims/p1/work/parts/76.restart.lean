/-! the reference's machine begins -/
def rs1 (M : sm_M) (r : Nat) (v : Int32) : sm_M := sm_up (sm_up M 47 r v) 48 r 0
def rsM (M : sm_M) : sm_M := sm_up (sm_up (rs1 (rs1 (rs1 (rs1 (rs1 (sm_up (sm_up M 1 66 0) 1 69 0) 1 1) 2 0) 3 0) 4 0) 5 0) 1 67 0) 1 68 (-1)
theorem r_restart_step {D : sm_D} {M : sm_M} {r : Nat} (h : r < 6) : jR_restart_12_b D (nI r, M) = some (.inl (nI (r + 1), rs1 M r (if r = 1 then 1 else 0))) := by
  have hck : ∀ {ρ : Type} {q : Option ρ}, sm_ck (nI r) 6 q = q := ck_nI h (by decide)
  have h33 : ∀ v : Int32, sm_dq D D (jR_restart_33 (nI r) (nI r) v D M) = some (.inl (nI (r + 1), rs1 M r v)) := by
    intro v
    unfold jR_restart_33 sm_wr
    rw [dq_self, hck, nI_clamp (by omega)]
    show sm_ck (nI r) 6 (sm_dq D D _) = _
    rw [hck, dq_self, nI_succ]
    rfl
  show jR_restart_12_c (nI r) D M = _
  unfold jR_restart_12_c
  have h6 : nI r < (6 : Int32) := show nI r < nI 6 from nI_lt h (by decide)
  rw [if_pos h6]
  by_cases hr : r = 1
  · subst hr
    rw [if_pos (show nI 1 = (1 : Int32) from rfl), h33]
    rfl
  · have h1 : ¬ nI r = (1 : Int32) := fun q => hr (nI_inj (by omega) (by decide) (show nI r = nI 1 from q))
    rw [if_neg h1, h33, if_neg hr]
theorem r_restart {D : sm_D} {M : sm_M} : jR_restart D M = some (0, D, rsM M) := by
  show jR_restart_12 (nI 1) D (sm_up (sm_up M 1 66 0) 1 69 0) = _
  unfold jR_restart_12
  rw [sm_lp_eq (r_restart_step (by decide)), sm_lp_eq (r_restart_step (by decide)), sm_lp_eq (r_restart_step (by decide)), sm_lp_eq (r_restart_step (by decide)), sm_lp_eq (r_restart_step (by decide))]
  refine sm_lp_end ?_
  show jR_restart_12_c (nI 6) D _ = _
  unfold jR_restart_12_c
  rw [if_neg (show ¬ nI 6 < (6 : Int32) by decide)]
  rfl
/-- the reference's memory behind its constructor -/
def mdl0 (M : sm_M) : Prop := ∃ M1 : sm_M, tabM M1 [tyN] ∧ (∀ j, j ≠ 1 → M1 1 j = 0) ∧ (∀ q, 6 < q → M1 q = fun _ => 0) ∧ M = rsM (sm_up (sm_up (sm_up (sm_up (sm_up M1 7 0 0) 1 7 1) 9 0 (-1)) 10 0 (-1)) 11 0 (-1))
theorem r_find_first {D : sm_D} : ∃ M1, jR_find 0 (-1) (-1) (-1) D (fun _ _ => 0) = some (0, D, M1) ∧ tabM M1 [tyN] ∧ (∀ j, j ≠ 1 → M1 1 j = 0) ∧ ∀ q, 6 < q → M1 q = fun _ => 0 := by
  have hT : tabM (fun _ _ => 0) [] := ⟨by simp, rfl, List.nodup_nil, fun i t hi => by simp at hi⟩
  rcases r_find (D := D) (n := 0) (a := -1) (b := -1) (c := -1) (o1 := none) (o2 := none) (o3 := none) hT (by decide) (Or.inl ⟨rfl, rfl⟩) (Or.inl ⟨rfl, rfl⟩) (Or.inl ⟨rfl, rfl⟩) (by decide) with ⟨r, hr, -⟩ | ⟨-, M', h1, h2, h3, h4⟩
  · simp at hr
  · exact ⟨M', h1, h2, h3, h4⟩
section
variable {p : Program} {l : Launch} {e : Env} {R : Room} {s : State} {m : MethodId} {args : Array Value} {below : List Frame} {meth : Method} {c : Code} {H H0 : Heap} {locs : List Loc} {cells slots : Nat} {Q : State → Prop}
variable {cc : ByteArray} {D : va_G} {A : Nat → Prop} {ls : Array Slot} {pc : Nat} {cI cZ : ClassId}
/-- cs_arr, the number of fields carried along -/
theorem cs_arrL {own : String} {o ci idx n k nF : Nat} {ni : Int32} {fs : List Value} {arrs : va_W} {C : String} {T : u_T} {p2 p3 : Nat} {z : Bool} (hf : fs.length = nF) (X : cs_Cx cc own D cI cZ A H0 p s m args meth c)
    (hP : va_P D smCl ((o, .inr (ci, fs)) :: arrs) H) (hD : va_D A ((o, .inr (ci, fs)) :: arrs)) (hS : va_S A H0 H locs) (hl : ls[0]? = some (.val (.ref o)))
    (d1 : decode cc pc = .ok (.aload_n 0, 1)) (d3 : decode cc p2 = .ok (.newarray (if z then .boolean else .int), 2)) (d4 : decode cc (p2 + 2) = .ok (.putfield idx, 3))
    (hpush : ∀ (st : List Value), W p l e R s m args below meth c H locs cells slots Q (F0 m p2 ls (.int ni :: st)) → W p l e R s m args below meth c H locs cells slots Q (F0 m (pc + 1) ls st))
    (hn0 : ¬ ni < 0) (hni : ni.toNatClampNeg = n) (hn : n ≤ 3000) (hcells : cells + 1 ≤ R.cells) (hslots : slots + n ≤ R.slots)
    (hc : smCl[ci]? = some (C, T, nF)) (hk : k < nF) (hlk : Cond.fieldLink own idx C (T k).2.1 (T k).2.2.1 ∈ smT) (hT1 : (T k).1 = C) (hoc : C = own) (hty : parseFieldDescriptor (T k).2.2.1 = some (.array (if z then .boolean else .int)))
    (harr : Cond.arrayClass (newarray.typeOf (if z then .boolean else .int)) ∈ smT) (hp3 : p2 + 5 = p3)
    (kk : ∀ (q : Nat) (H1 : Heap) (locs1 : List Loc) (fs' : List Value) (arrs' : va_W), fs' = fs.set k (.ref q) → arrs' = arrs ++ [(q, .inl ((if z then cZ else cI), n, .inl (fun _ => 0)))] → fs'.length = nF → va_P D smCl ((o, .inr (ci, fs')) :: arrs') H1 → va_D A ((o, .inr (ci, fs')) :: arrs') → va_S A H0 H1 locs1 →
      W p l e R s m args below meth c H1 locs1 (cells + 1) (slots + n) Q (F0 m p3 ls [])) : W p l e R s m args below meth c H locs cells slots Q (F0 m pc ls []) := by
  subst hp3
  exact cs_arr X hP hD hS hl d1 d3 d4 hpush hn0 hni hn hcells hslots hc hk hf hlk hT1 hoc hty harr (fun q H1 locs1 h1 h2 h3 => kk q H1 locs1 _ _ rfl rfl (by rw [List.length_set]; exact hf) h1 h2 h3)
end
