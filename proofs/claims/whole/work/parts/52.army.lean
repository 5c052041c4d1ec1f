/-! ===== Army: aimOf ===== -/
theorem hit_eq {F : jx_F} {lv : Nat} {h : jx_H} {k : Int32} : rn F lv 27 [.int k] h = some (some (.int (if k = 2 then 2 else 1)), h) := by
  simp only [e_Kinds_hitOf, s_Kinds_hitOf_0, s_Kinds_hitOf_1, s_Kinds_hitOf_2, s_Kinds_hitOf_5, s_Kinds_hitOf_6, s_Kinds_hitOf_9, s_Kinds_hitOf_10]
  split <;> rfl
/-- where one of a kind aims -/
def aimS (k e : Int32) : Int32 := if k = 1 then 2 else if k = 3 then 3 else if k = 4 then (if e = 0 then 3 else 0) else 1
theorem aimOn_eq {F : jx_F} {lv : Nat} {h : jx_H} {k e : Int32} : rn F lv 28 [.int k, .int e] h = some (some (.int (aimS k e)), h) := by
  simp only [e_Kinds_aimOn, s_Kinds_aimOn_0, s_Kinds_aimOn_1, s_Kinds_aimOn_32, s_Kinds_aimOn_33, s_Kinds_aimOn_34, s_Kinds_aimOn_35, s_Kinds_aimOn_36, s_Kinds_aimOn_37, s_Kinds_aimOn_40, s_Kinds_aimOn_41, s_Kinds_aimOn_44, s_Kinds_aimOn_45, s_Kinds_aimOn_46, s_Kinds_aimOn_47, aimS]
  by_cases h1 : k = 1
  · simp only [h1, if_true]
  · by_cases h2 : k = 2
    · simp only [h2, if_true, if_neg (show ¬ (2 : Int32) = 1 by decide), if_neg (show ¬ (2 : Int32) = 3 by decide), if_neg (show ¬ (2 : Int32) = 4 by decide)]
    · by_cases h3 : k = 3
      · simp only [h3, if_true, if_neg (show ¬ (3 : Int32) = 1 by decide), if_neg (show ¬ (3 : Int32) = 2 by decide)]
      · by_cases h4 : k = 4
        · simp only [h4, if_true, if_neg (show ¬ (4 : Int32) = 1 by decide), if_neg (show ¬ (4 : Int32) = 2 by decide), if_neg (show ¬ (4 : Int32) = 3 by decide)]
          split <;> rfl
        · simp only [if_neg h1, if_neg h2, if_neg h3, if_neg h4]
/-- is the day behind this one even -/
def evD (d : Int32) : Int32 := if d + 1 - (d + 1) / 2 * 2 = 0 then 1 else 0
/-- whom j aims at -/
def aimF (I : Nat → Nat → Int32) (a n j : Nat) : Int32 :=
  if I (a + 2) j = 0 then -1 else
  if aimS (I (a + 1) j) (evD (I a 4)) = 1 then fstO I a j (oth n j) n else
  if aimS (I (a + 1) j) (evD (I a 4)) = 2 then lstO I a j (oth n j) n else
  if aimS (I (a + 1) j) (evD (I a 4)) = 3 then fulO I a j (oth n j) n (-1) 0 else -1
section Arm
variable {F : jx_F} {lv : Nat} {I : Nat → Nat → Int32} {J : Nat → Nat → Int64} {a : Nat}
theorem aim_in {n j : Nat} (h : Ar a) (hn : Mn I a n) (hj : j < 2 * n) : rn F (lv + 3) 8 [.ref a, .int (nI j)] (HH I J) = some (some (.int (aimF I a n j)), HH I J) := by
  have := hn.2.2
  simp only [e_Army_aimOf, s_Army_aimOf_0, s_Army_aimOf_1, s_Army_aimOf_2 (ar_rcv h), s_Army_aimOf_5, s_Army_aimOf_8, s_Army_aimOf_9, s_Army_aimOf_10, s_Army_aimOf_11, s_Army_aimOf_14, s_Army_aimOf_15, s_Army_aimOf_16, s_Army_aimOf_17, s_Army_aimOf_20, s_Army_aimOf_21, s_Army_aimOf_22, s_Army_aimOf_23, s_Army_aimOf_24, s_Army_aimOf_27, s_Army_aimOf_28, s_Army_aimOf_31, s_Army_aimOf_32, s_Army_aimOf_35, s_Army_aimOf_60, s_Army_aimOf_61, s_Army_aimOf_62 (ar_rcv h), s_Army_aimOf_65, s_Army_aimOf_66, s_Army_aimOf_67, s_Army_aimOf_68 (ar_rcv h), s_Army_aimOf_71, s_Army_aimOf_72, s_Army_aimOf_73, s_Army_aimOf_74 (ar_rcv h), s_Army_aimOf_77, s_Army_aimOf_78, s_Army_aimOf_79, home_in h hn hj, aimF]
  by_cases h0 : I (a + 2) j = 0
  · simp only [h0, if_true, Option.bind_some, Option.toList_some, Option.toList_none, List.cons_append, List.nil_append, i10, i01, if_false, if_true, nI_add, nI_1, s_Army_aimOf_0, s_Army_aimOf_1, s_Army_aimOf_5, s_Army_aimOf_8, s_Army_aimOf_9, s_Army_aimOf_10, s_Army_aimOf_11, s_Army_aimOf_14, s_Army_aimOf_15, s_Army_aimOf_16, s_Army_aimOf_17, s_Army_aimOf_20, s_Army_aimOf_21, s_Army_aimOf_22, s_Army_aimOf_23, s_Army_aimOf_24, s_Army_aimOf_27, s_Army_aimOf_28, s_Army_aimOf_31, s_Army_aimOf_32, s_Army_aimOf_35, s_Army_aimOf_60, s_Army_aimOf_61, s_Army_aimOf_65, s_Army_aimOf_66, s_Army_aimOf_67, s_Army_aimOf_71, s_Army_aimOf_72, s_Army_aimOf_73, s_Army_aimOf_77, s_Army_aimOf_78, s_Army_aimOf_79]
  · simp only [h0, if_false, Option.bind_some, Option.toList_some, Option.toList_none, List.cons_append, List.nil_append, i10, i01, if_false, if_true, nI_add, nI_1, s_Army_aimOf_0, s_Army_aimOf_1, s_Army_aimOf_2 (ar_rcv h), s_Army_aimOf_5, s_Army_aimOf_8, s_Army_aimOf_9, s_Army_aimOf_10, s_Army_aimOf_11, s_Army_aimOf_14, s_Army_aimOf_15, s_Army_aimOf_16, s_Army_aimOf_17, s_Army_aimOf_20, s_Army_aimOf_21, s_Army_aimOf_22, s_Army_aimOf_23, s_Army_aimOf_24, s_Army_aimOf_27, s_Army_aimOf_28, s_Army_aimOf_31, s_Army_aimOf_32, s_Army_aimOf_35, s_Army_aimOf_60, s_Army_aimOf_61, s_Army_aimOf_62 (ar_rcv h), s_Army_aimOf_65, s_Army_aimOf_66, s_Army_aimOf_67, s_Army_aimOf_68 (ar_rcv h), s_Army_aimOf_71, s_Army_aimOf_72, s_Army_aimOf_73, s_Army_aimOf_74 (ar_rcv h), s_Army_aimOf_77, s_Army_aimOf_78, s_Army_aimOf_79, ar_kind h, ar_day h, ar_g1 h, at_in (show j < 8 by omega) (by decide), nI_clamp (show j < 2 ^ 31 by omega), if_neg (show ¬ (2 : Int32) = 0 by decide), aimOn_eq, least_in h hn hj, great_in h hn hj, full_in h hn hj]
    unfold evD
    by_cases he : I a 4 + 1 - (I a 4 + 1) / 2 * 2 = 0
    · simp only [if_pos he]
      split
      · rfl
      · split
        · rfl
        · split <;> rfl
    · simp only [if_neg he]
      split
      · rfl
      · split
        · rfl
        · split <;> rfl
end Arm
