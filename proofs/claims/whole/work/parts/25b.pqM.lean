/-! each method's rows are as its bytes have them: by program -/
set_option maxRecDepth 40000 in
theorem mem27 : Cond.code (sm_Iy f27) (sm_Ib f27) (sm_Il f27) (sm_Ir f27) ∈ tables_1_6 := List.mem_of_getElem? (i := 26) rfl
theorem mem27' : Cond.code (sm_Iy f27) (sm_Ib f27) (sm_Il f27) (sm_Ir f27) ∈ lw_tbl := List.mem_append_right _ (List.mem_append_right _ (List.mem_append_right _ (List.mem_append_right _ (List.mem_append_right _ (List.mem_append_right _ (List.mem_append_left _ mem27))))))
theorem pq27 : sm_PQ f27 := ⟨List.mem_filter.mpr ⟨mem27', by decide +kernel⟩, sm_mem1 113 (by decide +kernel) (by decide +kernel), by decide +kernel, ⟨by decide +kernel, by decide +kernel, by decide +kernel⟩, by decide, Or.inr (Or.inr rfl), by decide +kernel⟩
