theorem jl_d6 : jx_dec code jl_6 = true := by decide +kernel
theorem jl_d7 : jx_dec code jl_7 = true := by decide +kernel
theorem jl_d8 : jx_dec code jl_8 = true := by decide +kernel
