/-! ===== Sightings ===== -/
section Sgt
variable {F : jx_F} {lv : Nat} {I : Nat → Nat → Int32} {J : Nat → Nat → Int64}
theorem sight_eq {h : jx_H} {x y : Int32} : rn F lv 42 [.int x, .int y] h = some (some (.int (10 * x + y)), h) := by
  simp only [e_Sightings_sightOf, s_Sightings_sightOf_0, s_Sightings_sightOf_2, s_Sightings_sightOf_3, s_Sightings_sightOf_4, s_Sightings_sightOf_5, s_Sightings_sightOf_6]
/-- what a kind shows on a day -/
def sigK (k d : Int32) : Int32 := 10 * aimS k (if d = 1 then 1 else 0) + (if aimS k (if d = 1 then 1 else 0) = 0 then 0 else if k = 2 then 2 else 1)
theorem sigK_eq {h : jx_H} {k d : Int32} : rn F (lv + 1) 43 [.int k, .int d] h = some (some (.int (sigK k d)), h) := by
  simp only [e_Sightings_sightOfKind, s_Sightings_sightOfKind_0, s_Sightings_sightOfKind_1, s_Sightings_sightOfKind_2, s_Sightings_sightOfKind_3, s_Sightings_sightOfKind_6, s_Sightings_sightOfKind_7, s_Sightings_sightOfKind_10, s_Sightings_sightOfKind_11, s_Sightings_sightOfKind_14, s_Sightings_sightOfKind_15, s_Sightings_sightOfKind_16, s_Sightings_sightOfKind_17, s_Sightings_sightOfKind_20, s_Sightings_sightOfKind_21, s_Sightings_sightOfKind_24, s_Sightings_sightOfKind_25, s_Sightings_sightOfKind_28, s_Sightings_sightOfKind_31, aimOn_eq, hit_eq, sight_eq, Option.bind_some, Option.toList_some, List.cons_append, List.nil_append, sigK]
  by_cases q : d = 1
  · simp only [if_pos q]
    split <;> rfl
  · simp only [if_neg q]
    split <;> rfl
theorem sadd_full {d x y : Int32} (h : ¬ I 63 2 < 6) : rn F (lv + 1) 41 [.ref 63, .int d, .int x, .int y] (HH I J) = some (some (.int 0), HH I J) := by
  simp only [e_Sightings_add, s_Sightings_add_0, s_Sightings_add_1, s_Sightings_add_4, s_Sightings_add_6, s_Sightings_add_9, rz_Sightings_add_10, ro_Sightings_add_10, s_Sightings_add_11, s_Sightings_add_12, s_Sightings_add_15, s_Sightings_add_16, s_Sightings_add_19, s_Sightings_add_20, s_Sightings_add_21, s_Sightings_add_22, s_Sightings_add_25, s_Sightings_add_26, s_Sightings_add_29, s_Sightings_add_30, s_Sightings_add_31, s_Sightings_add_34, s_Sightings_add_35, s_Sightings_add_36, s_Sightings_add_37, s_Sightings_add_40, s_Sightings_add_41, s_Sightings_add_42, s_Sightings_add_45, rz_Sightings_add_46, ro_Sightings_add_46, g_63_2, if_neg h]
theorem sadd_in {d x y : Int32} {c : Nat} (e : I 63 2 = nI c) (h : c < 6) : rn F (lv + 1) 41 [.ref 63, .int d, .int x, .int y] (HH I J) = some (some (.int 1), HH (up2 (up2 (up2 I 64 c d) 65 c (10 * x + y)) 63 2 (nI (c + 1))) J) := by
  have e6 : (6 : Int32) = nI 6 := rfl
  simp only [e_Sightings_add, s_Sightings_add_0, s_Sightings_add_1, s_Sightings_add_4, s_Sightings_add_6, s_Sightings_add_9, rz_Sightings_add_10, ro_Sightings_add_10, s_Sightings_add_11, s_Sightings_add_12, s_Sightings_add_15, s_Sightings_add_16, s_Sightings_add_19, s_Sightings_add_20, s_Sightings_add_21, s_Sightings_add_22, s_Sightings_add_25, s_Sightings_add_26, s_Sightings_add_29, s_Sightings_add_30, s_Sightings_add_31, s_Sightings_add_34, s_Sightings_add_35, s_Sightings_add_36, s_Sightings_add_37, s_Sightings_add_40, s_Sightings_add_41, s_Sightings_add_42, s_Sightings_add_45, rz_Sightings_add_46, ro_Sightings_add_46, g_63_0, g_63_1, g_63_2, e, e6, if_pos (nI_lt h (show 6 < 2 ^ 31 by decide)), gi_64, pi_64, pi_65, at_in h (show 6 < 2 ^ 31 by decide), nI_clamp (show c < 2 ^ 31 by omega), sight_eq, Option.bind_some, Option.toList_some, List.cons_append, List.nil_append, up2_ne (show 63 ≠ 64 by decide), up2_ne (show 63 ≠ 65 by decide), nI_1, p_63_2]
/-- the first c sightings from i on fit a kind -/
def fitB (I : Nat → Nat → Int32) (k : Int32) : Nat → Nat → Int32
  | _, 0 => 1
  | i, c + 1 => if sigK k (I 64 i) = I 65 i then fitB I k (i + 1) c else 0
theorem fit_loop {n : Nat} {k : Int32} (e : I 63 2 = nI n) (hn : n ≤ 6) : ∀ (c i : Nat), i + c = n → ev F (lv + 2) jm_Sightings_fits 2 [.ref 63, .int k, .int (nI i)] [] (HH I J) = some (some (.int (fitB I k i c)), HH I J) := by
  have e6 : (6 : Int32) = nI 6 := rfl
  intro c
  induction c with
  | zero =>
    intro i hi
    obtain rfl : i = n := by omega
    rw [s_Sightings_fits_2]
    simp only [s_Sightings_fits_0, s_Sightings_fits_1, s_Sightings_fits_3, s_Sightings_fits_4, s_Sightings_fits_7, s_Sightings_fits_10, s_Sightings_fits_11, s_Sightings_fits_13, s_Sightings_fits_16, s_Sightings_fits_17, s_Sightings_fits_18, s_Sightings_fits_21, s_Sightings_fits_22, s_Sightings_fits_23, s_Sightings_fits_26, s_Sightings_fits_27, s_Sightings_fits_30, s_Sightings_fits_31, s_Sightings_fits_32, s_Sightings_fits_35, rz_Sightings_fits_36, ro_Sightings_fits_36, s_Sightings_fits_37, s_Sightings_fits_40, s_Sightings_fits_43, rz_Sightings_fits_44, ro_Sightings_fits_44, g_63_2, e, if_pos (nI_le (Nat.le_refl i) (show i < 2 ^ 31 by omega)), fitB]
  | succ c ih =>
    intro i hi
    rw [s_Sightings_fits_2]
    simp only [s_Sightings_fits_0, s_Sightings_fits_1, s_Sightings_fits_3, s_Sightings_fits_4, s_Sightings_fits_7, s_Sightings_fits_10, s_Sightings_fits_11, s_Sightings_fits_13, s_Sightings_fits_16, s_Sightings_fits_17, s_Sightings_fits_18, s_Sightings_fits_21, s_Sightings_fits_22, s_Sightings_fits_23, s_Sightings_fits_26, s_Sightings_fits_27, s_Sightings_fits_30, s_Sightings_fits_31, s_Sightings_fits_32, s_Sightings_fits_35, rz_Sightings_fits_36, ro_Sightings_fits_36, s_Sightings_fits_37, s_Sightings_fits_40, s_Sightings_fits_43, rz_Sightings_fits_44, ro_Sightings_fits_44, g_63_0, g_63_1, g_63_2, e, e6, if_neg (nI_ge (show i < n by omega) (show n < 2 ^ 31 by omega)), if_neg (nI_ge (show i < 6 by omega) (show 6 < 2 ^ 31 by omega)), gi_64, gi_65, at_in (show i < 6 by omega) (show 6 < 2 ^ 31 by decide), nI_clamp (show i < 2 ^ 31 by omega), sigK_eq, Option.bind_some, Option.toList_some, List.cons_append, List.nil_append, fitB, nI_1, ih (i + 1) (by omega)]
    split <;> rfl
theorem fit_in {n : Nat} {k : Int32} (e : I 63 2 = nI n) (hn : n ≤ 6) : rn F (lv + 2) 44 [.ref 63, .int k] (HH I J) = some (some (.int (fitB I k 0 n)), HH I J) := by
  simp only [e_Sightings_fits, s_Sightings_fits_0, s_Sightings_fits_1, s_Sightings_fits_3, s_Sightings_fits_4, s_Sightings_fits_7, s_Sightings_fits_10, s_Sightings_fits_11, s_Sightings_fits_13, s_Sightings_fits_16, s_Sightings_fits_17, s_Sightings_fits_18, s_Sightings_fits_21, s_Sightings_fits_22, s_Sightings_fits_23, s_Sightings_fits_26, s_Sightings_fits_27, s_Sightings_fits_30, s_Sightings_fits_31, s_Sightings_fits_32, s_Sightings_fits_35, rz_Sightings_fits_36, ro_Sightings_fits_36, s_Sightings_fits_37, s_Sightings_fits_40, s_Sightings_fits_43, rz_Sightings_fits_44, ro_Sightings_fits_44]
  exact fit_loop e hn n 0 (by omega)
end Sgt
