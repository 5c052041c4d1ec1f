/-! ===== Army: what its methods answer ===== -/
section Arm
variable {F : jx_F} {lv : Nat} {I : Nat → Nat → Int32} {J : Nat → Nat → Int64} {a : Nat}
theorem has_eq (h : Ar a) (m : Int32) : rn F lv 3 [.ref a, .int m] (HH I J) = if m < 0 then some (some (.int 0), HH I J) else if 2 * I a 3 ≤ m then some (some (.int 0), HH I J) else some (some (.int 1), HH I J) := by
  simp only [e_Army_has, s_Army_has_0, s_Army_has_1, s_Army_has_4, s_Army_has_5, s_Army_has_6, s_Army_has_7, s_Army_has_10, s_Army_has_11, s_Army_has_14, s_Army_has_15, s_Army_has_18, rz_Army_has_19, ro_Army_has_19, ar_men h]
theorem side_eq (h : Ar a) (m : Int32) : rn F lv 4 [.ref a, .int m] (HH I J) = if I a 3 ≤ m then some (some (.int 1), HH I J) else some (some (.int 0), HH I J) := by
  simp only [e_Army_sideOf, s_Army_sideOf_0, s_Army_sideOf_1, s_Army_sideOf_2, s_Army_sideOf_5, s_Army_sideOf_8, s_Army_sideOf_9, s_Army_sideOf_12, s_Army_sideOf_13, ar_men h]
theorem first_eq (h : Ar a) (m : Int32) : rn F lv 5 [.ref a, .int m] (HH I J) = if m = 0 then some (some (.int 0), HH I J) else some (some (.int (I a 3)), HH I J) := by
  simp only [e_Army_firstOf, s_Army_firstOf_0, s_Army_firstOf_1, s_Army_firstOf_4, s_Army_firstOf_5, s_Army_firstOf_8, s_Army_firstOf_9, s_Army_firstOf_12, ar_men h]
/-- a place of eight -/
theorem at_in {α : Type} {j n : Nat} {k : Option α} (hj : j < n) (hn : n < 2 ^ 31) : jx_at (nI j) n k = k := by
  unfold jx_at; rw [if_neg (nI_in hj hn)]
/-- the army has 1 to 4 men a side -/
def Mn (I : Nat → Nat → Int32) (a n : Nat) : Prop := I a 3 = nI n ∧ 1 ≤ n ∧ n ≤ 4
theorem mn_2 {n : Nat} (h : Mn I a n) : 2 * I a 3 = nI (2 * n) := by rw [h.1]; exact pk_mul 2 n
theorem has_in {n j : Nat} (h : Ar a) (hn : Mn I a n) (hj : j < 2 * n) : rn F lv 3 [.ref a, .int (nI j)] (HH I J) = some (some (.int 1), HH I J) := by
  have := hn.2.2
  rw [has_eq h, mn_2 hn, if_neg (nI_pos (by omega)), if_neg (nI_ge hj (by omega))]
theorem home_in {n j : Nat} (h : Ar a) (hn : Mn I a n) (hj : j < 2 * n) : rn F (lv + 1) 6 [.ref a, .int (nI j)] (HH I J) = if I (a + 2) j = 0 then some (some (.int 1), HH I J) else some (some (.int 0), HH I J) := by
  have := hn.2.2
  simp only [e_Army_isHome, s_Army_isHome_0, s_Army_isHome_1, s_Army_isHome_2 (ar_rcv h), s_Army_isHome_5, s_Army_isHome_8, s_Army_isHome_9, s_Army_isHome_12, s_Army_isHome_13, s_Army_isHome_14, s_Army_isHome_17, s_Army_isHome_18, s_Army_isHome_21, rz_Army_isHome_22, ro_Army_isHome_22, has_in h hn hj, ar_but h, ar_g2 h, at_in (show j < 8 by omega) (by decide), nI_clamp (show j < 2 ^ 31 by omega), Option.bind_some, Option.toList_some, List.cons_append, List.nil_append, one_ne_zero, if_false]
end Arm
