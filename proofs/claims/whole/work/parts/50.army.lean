/-! ===== Army: what its methods answer ===== -/
theorem i10 : ((1 : Int32) = 0) = False := by decide
theorem i01 : ((0 : Int32) = 1) = False := by decide
section Arm
variable {F : jx_F} {lv : Nat} {I : Nat → Nat → Int32} {J : Nat → Nat → Int64} {a : Nat}
theorem has_eq (h : Ar a) (m : Int32) : rn F lv 3 [.ref a, .int m] (HH I J) = if m < 0 then some (some (.int 0), HH I J) else if 2 * I a 3 ≤ m then some (some (.int 0), HH I J) else some (some (.int 1), HH I J) := by
  simp only [e_Army_has, s_Army_has_0, s_Army_has_1, s_Army_has_4, s_Army_has_5, s_Army_has_6, s_Army_has_7, s_Army_has_10, s_Army_has_11, s_Army_has_14, s_Army_has_15, s_Army_has_18, rz_Army_has_19, ro_Army_has_19, ar_men h]
theorem side_eq (h : Ar a) (m : Int32) : rn F lv 4 [.ref a, .int m] (HH I J) = if I a 3 ≤ m then some (some (.int 1), HH I J) else some (some (.int 0), HH I J) := by
  simp only [e_Army_sideOf, s_Army_sideOf_0, s_Army_sideOf_1, s_Army_sideOf_2, s_Army_sideOf_5, s_Army_sideOf_8, s_Army_sideOf_9, s_Army_sideOf_12, s_Army_sideOf_13, ar_men h]
theorem first_eq (h : Ar a) (m : Int32) : rn F lv 5 [.ref a, .int m] (HH I J) = if m = 0 then some (some (.int 0), HH I J) else some (some (.int (I a 3)), HH I J) := by
  simp only [e_Army_firstOf, s_Army_firstOf_0, s_Army_firstOf_1, s_Army_firstOf_4, s_Army_firstOf_5, s_Army_firstOf_8, s_Army_firstOf_9, s_Army_firstOf_12, ar_men h]
/-- a place of eight -/
theorem at_in {α : Type} {j n : Nat} {k : Option α} (hj : j < n) (hn : n < 2 ^ 31) : jx_at (nI j) n k = k := by
  unfold jx_at; rw [if_neg (nI_in hj hn)]
/-- the army has 1 to 4 men a side -/
def Mn (I : Nat → Nat → Int32) (a n : Nat) : Prop := I a 3 = nI n ∧ 1 ≤ n ∧ n ≤ 4
theorem mn_2 {n : Nat} (h : Mn I a n) : 2 * I a 3 = nI (2 * n) := by rw [h.1]; exact pk_mul 2 n
theorem has_in {n j : Nat} (h : Ar a) (hn : Mn I a n) (hj : j < 2 * n) : rn F lv 3 [.ref a, .int (nI j)] (HH I J) = some (some (.int 1), HH I J) := by
  have := hn.2.2
  rw [has_eq h, mn_2 hn, if_neg (nI_pos (by omega)), if_neg (nI_ge hj (by omega))]
theorem home_in {n j : Nat} (h : Ar a) (hn : Mn I a n) (hj : j < 2 * n) : rn F (lv + 1) 6 [.ref a, .int (nI j)] (HH I J) = if I (a + 2) j = 0 then some (some (.int 1), HH I J) else some (some (.int 0), HH I J) := by
  have := hn.2.2
  simp only [e_Army_isHome, s_Army_isHome_0, s_Army_isHome_1, s_Army_isHome_2 (ar_rcv h), s_Army_isHome_5, s_Army_isHome_8, s_Army_isHome_9, s_Army_isHome_12, s_Army_isHome_13, s_Army_isHome_14, s_Army_isHome_17, s_Army_isHome_18, s_Army_isHome_21, rz_Army_isHome_22, ro_Army_isHome_22, has_in h hn hj, ar_but h, ar_g2 h, at_in (show j < 8 by omega) (by decide), nI_clamp (show j < 2 ^ 31 by omega), Option.bind_some, Option.toList_some, List.cons_append, List.nil_append, i10, if_false]
/-- o is open to j -/
def Op (I : Nat → Nat → Int32) (a j o : Nat) : Prop := ¬ (I (a + 2) o ≤ 0 ∨ I (a + 3) j = nI o)
theorem open_in {n j o : Nat} (h : Ar a) (hn : Mn I a n) (hj : j < 2 * n) (ho : o < 2 * n) : rn F (lv + 1) 7 [.ref a, .int (nI j), .int (nI o)] (HH I J) = if I (a + 2) o ≤ 0 then some (some (.int 0), HH I J) else if I (a + 3) j = nI o then some (some (.int 0), HH I J) else some (some (.int 1), HH I J) := by
  have := hn.2.2
  simp only [e_Army_isOpen, s_Army_isOpen_0, s_Army_isOpen_1, s_Army_isOpen_2 (ar_rcv h), s_Army_isOpen_5, s_Army_isOpen_8, s_Army_isOpen_9, s_Army_isOpen_10 (ar_rcv h), s_Army_isOpen_13, s_Army_isOpen_16, s_Army_isOpen_17, s_Army_isOpen_20, s_Army_isOpen_21, s_Army_isOpen_22, s_Army_isOpen_25, s_Army_isOpen_26, s_Army_isOpen_29, s_Army_isOpen_30, s_Army_isOpen_31, s_Army_isOpen_32, s_Army_isOpen_35, s_Army_isOpen_36, s_Army_isOpen_39, rz_Army_isOpen_40, ro_Army_isOpen_40, has_in h hn hj, has_in h hn ho, ar_but h, ar_mnd h, ar_g2 h, ar_g3 h, at_in (show j < 8 by omega) (by decide), at_in (show o < 8 by omega) (by decide), nI_clamp (show j < 2 ^ 31 by omega), nI_clamp (show o < 2 ^ 31 by omega), Option.bind_some, Option.toList_some, List.cons_append, List.nil_append, i10, if_false]
/-- the first one from o on, of c -/
def fstO (I : Nat → Nat → Int32) (a j : Nat) : Nat → Nat → Int32
  | _, 0 => -1
  | o, c + 1 => if I (a + 2) o ≤ 0 then fstO I a j (o + 1) c else if I (a + 3) j = nI o then fstO I a j (o + 1) c else nI o
theorem least_loop {n j lo : Nat} (h : Ar a) (hn : Mn I a n) (hj : j < 2 * n) (hlo : lo + n ≤ 2 * n) : ∀ (c o : Nat), o + c = lo + n → ev F (lv + 2) jm_Army_leastOpen 14 [.ref a, .int (nI j), .int (nI lo), .int (nI o)] [] (HH I J) = some (some (.int (fstO I a j o c)), HH I J) := by
  have := hn.2.2
  intro c
  induction c with
  | zero =>
    intro o ho
    simp only [s_Army_leastOpen_0, s_Army_leastOpen_1, s_Army_leastOpen_2, s_Army_leastOpen_3, s_Army_leastOpen_4 (ar_rcv h), s_Army_leastOpen_7, s_Army_leastOpen_8 (ar_rcv h), s_Army_leastOpen_11, s_Army_leastOpen_12, s_Army_leastOpen_13, s_Army_leastOpen_14, s_Army_leastOpen_15, s_Army_leastOpen_16, s_Army_leastOpen_17, s_Army_leastOpen_20, s_Army_leastOpen_21, s_Army_leastOpen_24, s_Army_leastOpen_25, s_Army_leastOpen_26, s_Army_leastOpen_27 (ar_rcv h), s_Army_leastOpen_30, s_Army_leastOpen_33, s_Army_leastOpen_34, s_Army_leastOpen_35, s_Army_leastOpen_38, s_Army_leastOpen_41, s_Army_leastOpen_42, ar_men h, hn.1, nI_add, if_pos (nI_le (show lo + n ≤ o by omega) (show o < 2 ^ 31 by omega)), fstO]
  | succ c ih =>
    intro o ho
    rw [s_Army_leastOpen_14]
    simp only [s_Army_leastOpen_0, s_Army_leastOpen_1, s_Army_leastOpen_2, s_Army_leastOpen_3, s_Army_leastOpen_4 (ar_rcv h), s_Army_leastOpen_7, s_Army_leastOpen_8 (ar_rcv h), s_Army_leastOpen_11, s_Army_leastOpen_12, s_Army_leastOpen_13, s_Army_leastOpen_15, s_Army_leastOpen_16, s_Army_leastOpen_17, s_Army_leastOpen_20, s_Army_leastOpen_21, s_Army_leastOpen_24, s_Army_leastOpen_25, s_Army_leastOpen_26, s_Army_leastOpen_27 (ar_rcv h), s_Army_leastOpen_30, s_Army_leastOpen_33, s_Army_leastOpen_34, s_Army_leastOpen_35, s_Army_leastOpen_38, s_Army_leastOpen_41, s_Army_leastOpen_42, ar_men h, hn.1, nI_add, if_neg (nI_ge (show o < lo + n by omega) (show lo + n < 2 ^ 31 by omega)), open_in h hn hj (show o < 2 * n by omega), fstO]
    by_cases h1 : I (a + 2) o ≤ 0
    · simp only [h1, Option.bind_some, Option.toList_some, Option.toList_none, List.cons_append, List.nil_append, i10, i01, if_false, if_true, nI_add, nI_1, s_Army_leastOpen_0, s_Army_leastOpen_1, s_Army_leastOpen_2, s_Army_leastOpen_3, s_Army_leastOpen_7, s_Army_leastOpen_11, s_Army_leastOpen_12, s_Army_leastOpen_13, s_Army_leastOpen_15, s_Army_leastOpen_16, s_Army_leastOpen_17, s_Army_leastOpen_20, s_Army_leastOpen_21, s_Army_leastOpen_24, s_Army_leastOpen_25, s_Army_leastOpen_26, s_Army_leastOpen_30, s_Army_leastOpen_33, s_Army_leastOpen_34, s_Army_leastOpen_35, s_Army_leastOpen_38, s_Army_leastOpen_41, s_Army_leastOpen_42, ih (o + 1) (by omega)]
    · by_cases h2 : I (a + 3) j = nI o
      · simp only [h1, h2, Option.bind_some, Option.toList_some, Option.toList_none, List.cons_append, List.nil_append, i10, i01, if_false, if_true, nI_add, nI_1, s_Army_leastOpen_0, s_Army_leastOpen_1, s_Army_leastOpen_2, s_Army_leastOpen_3, s_Army_leastOpen_7, s_Army_leastOpen_11, s_Army_leastOpen_12, s_Army_leastOpen_13, s_Army_leastOpen_15, s_Army_leastOpen_16, s_Army_leastOpen_17, s_Army_leastOpen_20, s_Army_leastOpen_21, s_Army_leastOpen_24, s_Army_leastOpen_25, s_Army_leastOpen_26, s_Army_leastOpen_30, s_Army_leastOpen_33, s_Army_leastOpen_34, s_Army_leastOpen_35, s_Army_leastOpen_38, s_Army_leastOpen_41, s_Army_leastOpen_42, ih (o + 1) (by omega)]
      · simp only [h1, h2, Option.bind_some, Option.toList_some, Option.toList_none, List.cons_append, List.nil_append, i10, i01, if_false, if_true, nI_add, nI_1, s_Army_leastOpen_0, s_Army_leastOpen_1, s_Army_leastOpen_2, s_Army_leastOpen_3, s_Army_leastOpen_7, s_Army_leastOpen_11, s_Army_leastOpen_12, s_Army_leastOpen_13, s_Army_leastOpen_15, s_Army_leastOpen_16, s_Army_leastOpen_17, s_Army_leastOpen_20, s_Army_leastOpen_21, s_Army_leastOpen_24, s_Army_leastOpen_25, s_Army_leastOpen_26, s_Army_leastOpen_30, s_Army_leastOpen_33, s_Army_leastOpen_34, s_Army_leastOpen_35, s_Army_leastOpen_38, s_Army_leastOpen_41, s_Army_leastOpen_42]
theorem side_in {n j : Nat} (h : Ar a) (hn : Mn I a n) (hj : j < 2 * n) : rn F lv 4 [.ref a, .int (nI j)] (HH I J) = some (some (.int (if n ≤ j then 1 else 0)), HH I J) := by
  have := hn.2.2
  rw [side_eq h, hn.1]
  by_cases q : n ≤ j
  · rw [if_pos (nI_le q (by omega)), if_pos q]
  · rw [if_neg (nI_ge (Nat.not_le.mp q) (by omega)), if_neg q]
/-- where the other side begins -/
def oth (n j : Nat) : Nat := if n ≤ j then 0 else n
theorem least_in {n j : Nat} (h : Ar a) (hn : Mn I a n) (hj : j < 2 * n) : rn F (lv + 2) 9 [.ref a, .int (nI j)] (HH I J) = some (some (.int (fstO I a j (oth n j) n)), HH I J) := by
  have := hn.2.2
  have hl := least_loop (F := F) (lv := lv) (J := J) h hn hj (lo := oth n j) (by unfold oth; split <;> omega) n (oth n j) rfl
  simp only [e_Army_leastOpen, s_Army_leastOpen_0, s_Army_leastOpen_1, s_Army_leastOpen_2, s_Army_leastOpen_3, s_Army_leastOpen_4 (ar_rcv h), s_Army_leastOpen_7, s_Army_leastOpen_8 (ar_rcv h), s_Army_leastOpen_11, s_Army_leastOpen_12, s_Army_leastOpen_13, s_Army_leastOpen_15, s_Army_leastOpen_16, s_Army_leastOpen_17, s_Army_leastOpen_20, s_Army_leastOpen_21, s_Army_leastOpen_24, s_Army_leastOpen_25, s_Army_leastOpen_26, s_Army_leastOpen_27 (ar_rcv h), s_Army_leastOpen_30, s_Army_leastOpen_33, s_Army_leastOpen_34, s_Army_leastOpen_35, s_Army_leastOpen_38, s_Army_leastOpen_41, s_Army_leastOpen_42, side_in h hn hj, Option.bind_some, Option.toList_some, Option.toList_none, List.cons_append, List.nil_append, i10, i01, if_false, if_true, nI_add, nI_1]
  by_cases q : n ≤ j
  · simp only [q, if_true, show (1 : Int32) - 1 = 0 by decide, first_eq h, Option.bind_some, Option.toList_some, Option.toList_none, List.cons_append, List.nil_append, i10, i01, if_false, if_true, nI_add, nI_1, s_Army_leastOpen_0, s_Army_leastOpen_1, s_Army_leastOpen_2, s_Army_leastOpen_3, s_Army_leastOpen_7, s_Army_leastOpen_11, s_Army_leastOpen_12, s_Army_leastOpen_13, s_Army_leastOpen_15, s_Army_leastOpen_16, s_Army_leastOpen_17, s_Army_leastOpen_20, s_Army_leastOpen_21, s_Army_leastOpen_24, s_Army_leastOpen_25, s_Army_leastOpen_26, s_Army_leastOpen_30, s_Army_leastOpen_33, s_Army_leastOpen_34, s_Army_leastOpen_35, s_Army_leastOpen_38, s_Army_leastOpen_41, s_Army_leastOpen_42]
    have e : (0 : Int32) = nI (oth n j) := by unfold oth; rw [if_pos q]; rfl
    rw [e]; exact hl
  · simp only [q, if_false, show (1 : Int32) - 0 = 1 by decide, first_eq h, Option.bind_some, Option.toList_some, Option.toList_none, List.cons_append, List.nil_append, i10, i01, if_false, if_true, nI_add, nI_1, s_Army_leastOpen_0, s_Army_leastOpen_1, s_Army_leastOpen_2, s_Army_leastOpen_3, s_Army_leastOpen_7, s_Army_leastOpen_11, s_Army_leastOpen_12, s_Army_leastOpen_13, s_Army_leastOpen_15, s_Army_leastOpen_16, s_Army_leastOpen_17, s_Army_leastOpen_20, s_Army_leastOpen_21, s_Army_leastOpen_24, s_Army_leastOpen_25, s_Army_leastOpen_26, s_Army_leastOpen_30, s_Army_leastOpen_33, s_Army_leastOpen_34, s_Army_leastOpen_35, s_Army_leastOpen_38, s_Army_leastOpen_41, s_Army_leastOpen_42, hn.1]
    have e : nI n = nI (oth n j) := by unfold oth; rw [if_neg q]
    rw [e]; exact hl
end Arm
