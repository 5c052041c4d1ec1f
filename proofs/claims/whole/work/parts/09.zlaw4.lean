theorem jl_d12 : jx_dec code jl_12 = true := by decide +kernel
theorem jl_d13 : jx_dec code jl_13 = true := by decide +kernel
theorem jl_d14 : jx_dec code jl_14 = true := by decide +kernel
theorem jl_app {b : ByteArray} {x y : List (Nat × Instr)} (h1 : jx_dec b x = true) (h2 : jx_dec b y = true) : jx_dec b (x ++ y) = true := by unfold jx_dec at h1 h2 ⊢; rw [List.all_append, h1, h2]; rfl
theorem jl_all : jx_dec code jm_Law_law.2.2.2.2.2.2 = true := jl_app (jl_app (jl_app (jl_app (jl_app (jl_app (jl_app (jl_app (jl_app (jl_app (jl_app (jl_app (jl_app (jl_app (jl_d0) jl_d1) jl_d2) jl_d3) jl_d4) jl_d5) jl_d6) jl_d7) jl_d8) jl_d9) jl_d10) jl_d11) jl_d12) jl_d13) jl_d14
