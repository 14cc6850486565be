/-! each method's rows are as its bytes have them: by program -/
theorem pq27 : sm_PQ f27 := ⟨sm_mem1 1328 (by decide +kernel) (by decide +kernel), sm_mem1 113 (by decide +kernel) (by decide +kernel), by decide +kernel, ⟨by decide +kernel, by decide +kernel, by decide +kernel⟩, by decide, Or.inr (Or.inr rfl), by decide +kernel⟩
