theorem jl_d0 : jx_dec code jl_0 = true := by decide +kernel
theorem jl_d1 : jx_dec code jl_1 = true := by decide +kernel
theorem jl_d2 : jx_dec code jl_2 = true := by decide +kernel
