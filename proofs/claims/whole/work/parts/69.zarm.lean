/-! ===== rows of the armies by number ===== -/
section Arm
variable {α : Type} {I : Nat → Nat → Int32} {J : Nat → Nat → Int64}
theorem g_5_0 {k : Value → Option α} : jx_gf (HH I J) 5 0 0 k = k (.ref 6) := ar_kind ar_5
theorem g_5_1 {k : Value → Option α} : jx_gf (HH I J) 5 0 1 k = k (.ref 7) := ar_but ar_5
theorem g_5_2 {k : Value → Option α} : jx_gf (HH I J) 5 0 2 k = k (.ref 8) := ar_mnd ar_5
theorem g_5_3 {k : Value → Option α} : jx_gf (HH I J) 5 0 3 k = k (.int (I 5 3)) := ar_men ar_5
theorem g_5_4 {k : Value → Option α} : jx_gf (HH I J) 5 0 4 k = k (.int (I 5 4)) := ar_day ar_5
theorem gi_6 {i : Int32} {k : Int32 → Option α} : jx_gi (HH I J) 0 6 i k = jx_at i 8 (k (I 6 i.toNatClampNeg)) := ar_g1 ar_5
theorem pi_6 {i x : Int32} {k : jx_H → Option α} : jx_pi (HH I J) 0 6 i x k = jx_at i 8 (k (HH (up2 I 6 i.toNatClampNeg x) J)) := ar_p1 ar_5
theorem gi_7 {i : Int32} {k : Int32 → Option α} : jx_gi (HH I J) 0 7 i k = jx_at i 8 (k (I 7 i.toNatClampNeg)) := ar_g2 ar_5
theorem pi_7 {i x : Int32} {k : jx_H → Option α} : jx_pi (HH I J) 0 7 i x k = jx_at i 8 (k (HH (up2 I 7 i.toNatClampNeg x) J)) := ar_p2 ar_5
theorem gi_8 {i : Int32} {k : Int32 → Option α} : jx_gi (HH I J) 0 8 i k = jx_at i 8 (k (I 8 i.toNatClampNeg)) := ar_g3 ar_5
theorem pi_8 {i x : Int32} {k : jx_H → Option α} : jx_pi (HH I J) 0 8 i x k = jx_at i 8 (k (HH (up2 I 8 i.toNatClampNeg x) J)) := ar_p3 ar_5
theorem g_9_0 {k : Value → Option α} : jx_gf (HH I J) 9 0 0 k = k (.ref 10) := ar_kind ar_9
theorem g_9_1 {k : Value → Option α} : jx_gf (HH I J) 9 0 1 k = k (.ref 11) := ar_but ar_9
theorem g_9_2 {k : Value → Option α} : jx_gf (HH I J) 9 0 2 k = k (.ref 12) := ar_mnd ar_9
theorem g_9_3 {k : Value → Option α} : jx_gf (HH I J) 9 0 3 k = k (.int (I 9 3)) := ar_men ar_9
theorem g_9_4 {k : Value → Option α} : jx_gf (HH I J) 9 0 4 k = k (.int (I 9 4)) := ar_day ar_9
theorem gi_10 {i : Int32} {k : Int32 → Option α} : jx_gi (HH I J) 0 10 i k = jx_at i 8 (k (I 10 i.toNatClampNeg)) := ar_g1 ar_9
theorem pi_10 {i x : Int32} {k : jx_H → Option α} : jx_pi (HH I J) 0 10 i x k = jx_at i 8 (k (HH (up2 I 10 i.toNatClampNeg x) J)) := ar_p1 ar_9
theorem gi_11 {i : Int32} {k : Int32 → Option α} : jx_gi (HH I J) 0 11 i k = jx_at i 8 (k (I 11 i.toNatClampNeg)) := ar_g2 ar_9
theorem pi_11 {i x : Int32} {k : jx_H → Option α} : jx_pi (HH I J) 0 11 i x k = jx_at i 8 (k (HH (up2 I 11 i.toNatClampNeg x) J)) := ar_p2 ar_9
theorem gi_12 {i : Int32} {k : Int32 → Option α} : jx_gi (HH I J) 0 12 i k = jx_at i 8 (k (I 12 i.toNatClampNeg)) := ar_g3 ar_9
theorem pi_12 {i x : Int32} {k : jx_H → Option α} : jx_pi (HH I J) 0 12 i x k = jx_at i 8 (k (HH (up2 I 12 i.toNatClampNeg x) J)) := ar_p3 ar_9
theorem g_15_0 {k : Value → Option α} : jx_gf (HH I J) 15 0 0 k = k (.ref 16) := ar_kind ar_15
theorem g_15_1 {k : Value → Option α} : jx_gf (HH I J) 15 0 1 k = k (.ref 17) := ar_but ar_15
theorem g_15_2 {k : Value → Option α} : jx_gf (HH I J) 15 0 2 k = k (.ref 18) := ar_mnd ar_15
theorem g_15_3 {k : Value → Option α} : jx_gf (HH I J) 15 0 3 k = k (.int (I 15 3)) := ar_men ar_15
theorem g_15_4 {k : Value → Option α} : jx_gf (HH I J) 15 0 4 k = k (.int (I 15 4)) := ar_day ar_15
theorem gi_16 {i : Int32} {k : Int32 → Option α} : jx_gi (HH I J) 0 16 i k = jx_at i 8 (k (I 16 i.toNatClampNeg)) := ar_g1 ar_15
theorem pi_16 {i x : Int32} {k : jx_H → Option α} : jx_pi (HH I J) 0 16 i x k = jx_at i 8 (k (HH (up2 I 16 i.toNatClampNeg x) J)) := ar_p1 ar_15
theorem gi_17 {i : Int32} {k : Int32 → Option α} : jx_gi (HH I J) 0 17 i k = jx_at i 8 (k (I 17 i.toNatClampNeg)) := ar_g2 ar_15
theorem pi_17 {i x : Int32} {k : jx_H → Option α} : jx_pi (HH I J) 0 17 i x k = jx_at i 8 (k (HH (up2 I 17 i.toNatClampNeg x) J)) := ar_p2 ar_15
theorem gi_18 {i : Int32} {k : Int32 → Option α} : jx_gi (HH I J) 0 18 i k = jx_at i 8 (k (I 18 i.toNatClampNeg)) := ar_g3 ar_15
theorem pi_18 {i x : Int32} {k : jx_H → Option α} : jx_pi (HH I J) 0 18 i x k = jx_at i 8 (k (HH (up2 I 18 i.toNatClampNeg x) J)) := ar_p3 ar_15
end Arm
