theorem jl_d3 : jx_dec code jl_3 = true := by decide +kernel
theorem jl_d4 : jx_dec code jl_4 = true := by decide +kernel
theorem jl_d5 : jx_dec code jl_5 = true := by decide +kernel
