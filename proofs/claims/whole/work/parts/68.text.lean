/-! ===== Text: add, sortOf ===== -/
section Txt
variable {F : jx_F} {lv : Nat} {I : Nat → Nat → Int32} {J : Nat → Nat → Int64}
/-- the sort of a letter -/
def sortI (x : Int32) : Int32 := if x < 97 then (if x < 48 then 0 else if 57 < x then 0 else 2) else if 122 < x then (if x < 48 then 0 else if 57 < x then 0 else 2) else 1
theorem sort_eq {h : jx_H} {x : Int32} : rn F lv 61 [.int x] h = some (some (.int (sortI x)), h) := by
  simp only [e_Text_sortOf, s_Text_sortOf_0, s_Text_sortOf_1, s_Text_sortOf_3, s_Text_sortOf_6, s_Text_sortOf_7, s_Text_sortOf_9, s_Text_sortOf_12, s_Text_sortOf_13, s_Text_sortOf_14, s_Text_sortOf_15, s_Text_sortOf_17, s_Text_sortOf_20, s_Text_sortOf_21, s_Text_sortOf_23, s_Text_sortOf_26, s_Text_sortOf_27, s_Text_sortOf_30, s_Text_sortOf_31, sortI]
  split
  · split
    · rfl
    · split <;> rfl
  · split
    · split
      · rfl
      · split <;> rfl
    · rfl
theorem tadd_full {x : Int32} (h : ¬ I 13 2 < 200) : rn F lv 50 [.ref 13, .int x] (HH I J) = some (some (.int 0), HH I J) := by
  simp only [e_Text_add, s_Text_add_0, s_Text_add_1, s_Text_add_4, s_Text_add_7, s_Text_add_10, rz_Text_add_11, ro_Text_add_11, s_Text_add_12, s_Text_add_13, s_Text_add_16, s_Text_add_17, s_Text_add_20, s_Text_add_21, s_Text_add_22, s_Text_add_23, s_Text_add_24, s_Text_add_27, s_Text_add_28, s_Text_add_29, s_Text_add_32, rz_Text_add_33, ro_Text_add_33, g_13_2, if_neg h]
theorem tadd_in {x : Int32} {c : Nat} (e : I 13 2 = nI c) (h : c < 200) : rn F lv 50 [.ref 13, .int x] (HH I J) = some (some (.int 1), HH (up2 (up2 I 14 c (vp_nar .char x)) 13 2 (nI (c + 1))) J) := by
  have e2 : (200 : Int32) = nI 200 := rfl
  simp only [e_Text_add, s_Text_add_0, s_Text_add_1, s_Text_add_4, s_Text_add_7, s_Text_add_10, rz_Text_add_11, ro_Text_add_11, s_Text_add_12, s_Text_add_13, s_Text_add_16, s_Text_add_17, s_Text_add_20, s_Text_add_21, s_Text_add_22, s_Text_add_23, s_Text_add_24, s_Text_add_27, s_Text_add_28, s_Text_add_29, s_Text_add_32, rz_Text_add_33, ro_Text_add_33, g_13_0, g_13_2, e, e2, if_pos (nI_lt h (show 200 < 2 ^ 31 by decide)), pi_14, at_in h (show 200 < 2 ^ 31 by decide), nI_clamp (show c < 2 ^ 31 by omega), up2_ne (show 13 ≠ 14 by decide), nI_1, p_13_2]
end Txt
