theorem jl_d9 : jx_dec code jl_9 = true := by decide +kernel
theorem jl_d10 : jx_dec code jl_10 = true := by decide +kernel
theorem jl_d11 : jx_dec code jl_11 = true := by decide +kernel
