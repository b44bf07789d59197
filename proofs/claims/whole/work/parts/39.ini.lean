theorem ini10 : (pX10_initZ reX10 zeroM 0).isSome = true := by decide +kernel
theorem ini12 : (pX12_initZ reX12 zeroM 0).isSome = true := by decide +kernel
theorem ini10k : ∀ k, k < 24 → (match pX10_initZ reX10 zeroM 0 with | some T => T.2 6 k | none => 0) ≠ 0 := by decide +kernel
theorem ini12s : ∀ k, k < 270 → (match pX12_initZ reX12 zeroM 0 with | some T => T.1 2 k | none => 7) = if k = 3 then 10 else if k = 4 then 20 else 0 := by decide +kernel
