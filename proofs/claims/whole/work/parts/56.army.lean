/-! ===== Army: counts ===== -/
/-- a fold over the c places from m on -/
def fold2 (f : Nat → Int32 → Int32) : Nat → Nat → Int32 → Int32
  | _, 0, b => b
  | m, c + 1, b => fold2 f (m + 1) c (f m b)
section Arm
variable {F : jx_F} {lv : Nat} {I : Nat → Nat → Int32} {J : Nat → Nat → Int64} {a : Nat}
def knoF (I : Nat → Nat → Int32) (a : Nat) (x : Int32) (m : Nat) (b : Int32) : Int32 := if I (a + 3) m = x then b ||| (1 <<< (nI m &&& 31)) else b
theorem kno_loop {n : Nat} {x : Int32} (h : Ar a) (hn : Mn I a n) : ∀ (c m : Nat) (b : Int32), m + c = 2 * n → ev F lv jm_Army_knowersOf 4 [.ref a, .int x, .int b, .int (nI m)] [] (HH I J) = some (some (.int (fold2 (knoF I a x) m c b)), HH I J) := by
  have := hn.2.2
  intro c
  induction c with
  | zero =>
    intro m b hm
    obtain rfl : m = 2 * n := by omega
    simp only [s_Army_knowersOf_0, s_Army_knowersOf_1, s_Army_knowersOf_2, s_Army_knowersOf_3, s_Army_knowersOf_4, s_Army_knowersOf_5, s_Army_knowersOf_6, s_Army_knowersOf_7, s_Army_knowersOf_10, s_Army_knowersOf_11, s_Army_knowersOf_14, s_Army_knowersOf_15, s_Army_knowersOf_18, s_Army_knowersOf_19, s_Army_knowersOf_20, s_Army_knowersOf_21, s_Army_knowersOf_24, s_Army_knowersOf_25, s_Army_knowersOf_26, s_Army_knowersOf_27, s_Army_knowersOf_28, s_Army_knowersOf_29, s_Army_knowersOf_30, s_Army_knowersOf_33, s_Army_knowersOf_36, s_Army_knowersOf_37, ar_men h, mn_2 hn, if_pos (nI_le (Nat.le_refl (2 * n)) (show 2 * n < 2 ^ 31 by omega)), fold2]
  | succ c ih =>
    intro m b hm
    rw [s_Army_knowersOf_4]
    simp only [s_Army_knowersOf_0, s_Army_knowersOf_1, s_Army_knowersOf_2, s_Army_knowersOf_3, s_Army_knowersOf_5, s_Army_knowersOf_6, s_Army_knowersOf_7, s_Army_knowersOf_10, s_Army_knowersOf_11, s_Army_knowersOf_14, s_Army_knowersOf_15, s_Army_knowersOf_18, s_Army_knowersOf_19, s_Army_knowersOf_20, s_Army_knowersOf_21, s_Army_knowersOf_24, s_Army_knowersOf_25, s_Army_knowersOf_26, s_Army_knowersOf_27, s_Army_knowersOf_28, s_Army_knowersOf_29, s_Army_knowersOf_30, s_Army_knowersOf_33, s_Army_knowersOf_36, s_Army_knowersOf_37, ar_men h, mn_2 hn, if_neg (nI_ge (show m < 2 * n by omega) (show 2 * n < 2 ^ 31 by omega)), ar_mnd h, ar_g3 h, at_in (show m < 8 by omega) (by decide), nI_clamp (show m < 2 ^ 31 by omega), fold2, knoF, nI_1, ih (m + 1) _ (show m + 1 + c = 2 * n by omega)]
    split <;> rfl
theorem kno_in {n : Nat} {x : Int32} (h : Ar a) (hn : Mn I a n) : rn F lv 15 [.ref a, .int x] (HH I J) = some (some (.int (fold2 (knoF I a x) 0 (2 * n) 0)), HH I J) := by
  simp only [e_Army_knowersOf, s_Army_knowersOf_0, s_Army_knowersOf_1, s_Army_knowersOf_2, s_Army_knowersOf_3, s_Army_knowersOf_5, s_Army_knowersOf_6, s_Army_knowersOf_7, s_Army_knowersOf_10, s_Army_knowersOf_11, s_Army_knowersOf_14, s_Army_knowersOf_15, s_Army_knowersOf_18, s_Army_knowersOf_19, s_Army_knowersOf_20, s_Army_knowersOf_21, s_Army_knowersOf_24, s_Army_knowersOf_25, s_Army_knowersOf_26, s_Army_knowersOf_27, s_Army_knowersOf_28, s_Army_knowersOf_29, s_Army_knowersOf_30, s_Army_knowersOf_33, s_Army_knowersOf_36, s_Army_knowersOf_37]
  exact kno_loop h hn (2 * n) 0 0 (by omega)
def aatF (I : Nat → Nat → Int32) (a n : Nat) (x : Int32) (m : Nat) (b : Int32) : Int32 := if aimF I a n m = x then b ||| (1 <<< (nI m &&& 31)) else b
theorem aat_loop {n : Nat} {x : Int32} (h : Ar a) (hn : Mn I a n) : ∀ (c m : Nat) (b : Int32), m + c = 2 * n → ev F (lv + 4) jm_Army_aimersAt 4 [.ref a, .int x, .int b, .int (nI m)] [] (HH I J) = some (some (.int (fold2 (aatF I a n x) m c b)), HH I J) := by
  have := hn.2.2
  intro c
  induction c with
  | zero =>
    intro m b hm
    obtain rfl : m = 2 * n := by omega
    simp only [s_Army_aimersAt_0, s_Army_aimersAt_1, s_Army_aimersAt_2, s_Army_aimersAt_3, s_Army_aimersAt_4, s_Army_aimersAt_5, s_Army_aimersAt_6, s_Army_aimersAt_7, s_Army_aimersAt_10, s_Army_aimersAt_11, s_Army_aimersAt_14, s_Army_aimersAt_15, s_Army_aimersAt_16 (ar_rcv h), s_Army_aimersAt_19, s_Army_aimersAt_20, s_Army_aimersAt_23, s_Army_aimersAt_24, s_Army_aimersAt_25, s_Army_aimersAt_26, s_Army_aimersAt_27, s_Army_aimersAt_28, s_Army_aimersAt_29, s_Army_aimersAt_32, s_Army_aimersAt_35, s_Army_aimersAt_36, ar_men h, mn_2 hn, if_pos (nI_le (Nat.le_refl (2 * n)) (show 2 * n < 2 ^ 31 by omega)), fold2]
  | succ c ih =>
    intro m b hm
    rw [s_Army_aimersAt_4]
    simp only [s_Army_aimersAt_0, s_Army_aimersAt_1, s_Army_aimersAt_2, s_Army_aimersAt_3, s_Army_aimersAt_5, s_Army_aimersAt_6, s_Army_aimersAt_7, s_Army_aimersAt_10, s_Army_aimersAt_11, s_Army_aimersAt_14, s_Army_aimersAt_15, s_Army_aimersAt_16 (ar_rcv h), s_Army_aimersAt_19, s_Army_aimersAt_20, s_Army_aimersAt_23, s_Army_aimersAt_24, s_Army_aimersAt_25, s_Army_aimersAt_26, s_Army_aimersAt_27, s_Army_aimersAt_28, s_Army_aimersAt_29, s_Army_aimersAt_32, s_Army_aimersAt_35, s_Army_aimersAt_36, ar_men h, mn_2 hn, if_neg (nI_ge (show m < 2 * n by omega) (show 2 * n < 2 ^ 31 by omega)), aim_in h hn (show m < 2 * n by omega), fold2, aatF, Option.bind_some, Option.toList_some, Option.toList_none, List.cons_append, List.nil_append, i10, i01, if_false, if_true, nI_add, nI_1, ih (m + 1) _ (show m + 1 + c = 2 * n by omega)]
    split <;> rfl
theorem aat_in {n : Nat} {x : Int32} (h : Ar a) (hn : Mn I a n) : rn F (lv + 4) 16 [.ref a, .int x] (HH I J) = some (some (.int (fold2 (aatF I a n x) 0 (2 * n) 0)), HH I J) := by
  simp only [e_Army_aimersAt, s_Army_aimersAt_0, s_Army_aimersAt_1, s_Army_aimersAt_2, s_Army_aimersAt_3, s_Army_aimersAt_5, s_Army_aimersAt_6, s_Army_aimersAt_7, s_Army_aimersAt_10, s_Army_aimersAt_11, s_Army_aimersAt_14, s_Army_aimersAt_15, s_Army_aimersAt_19, s_Army_aimersAt_20, s_Army_aimersAt_23, s_Army_aimersAt_24, s_Army_aimersAt_25, s_Army_aimersAt_26, s_Army_aimersAt_27, s_Army_aimersAt_28, s_Army_aimersAt_29, s_Army_aimersAt_32, s_Army_aimersAt_35, s_Army_aimersAt_36]
  exact aat_loop h hn (2 * n) 0 0 (by omega)
def aimN (I : Nat → Nat → Int32) (a n : Nat) (m : Nat) (b : Int32) : Int32 := if aimF I a n m = -1 then b else b + 1
theorem aims_loop {n : Nat} (h : Ar a) (hn : Mn I a n) : ∀ (c m : Nat) (b : Int32), m + c = 2 * n → ev F (lv + 4) jm_Army_aimers 4 [.ref a, .int b, .int (nI m)] [] (HH I J) = some (some (.int (fold2 (aimN I a n) m c b)), HH I J) := by
  have := hn.2.2
  intro c
  induction c with
  | zero =>
    intro m b hm
    obtain rfl : m = 2 * n := by omega
    simp only [s_Army_aimers_0, s_Army_aimers_1, s_Army_aimers_2, s_Army_aimers_3, s_Army_aimers_4, s_Army_aimers_5, s_Army_aimers_6, s_Army_aimers_7, s_Army_aimers_10, s_Army_aimers_11, s_Army_aimers_14, s_Army_aimers_15, s_Army_aimers_16 (ar_rcv h), s_Army_aimers_19, s_Army_aimers_20, s_Army_aimers_23, s_Army_aimers_26, s_Army_aimers_29, s_Army_aimers_32, s_Army_aimers_33, ar_men h, mn_2 hn, if_pos (nI_le (Nat.le_refl (2 * n)) (show 2 * n < 2 ^ 31 by omega)), fold2]
  | succ c ih =>
    intro m b hm
    rw [s_Army_aimers_4]
    simp only [s_Army_aimers_0, s_Army_aimers_1, s_Army_aimers_2, s_Army_aimers_3, s_Army_aimers_5, s_Army_aimers_6, s_Army_aimers_7, s_Army_aimers_10, s_Army_aimers_11, s_Army_aimers_14, s_Army_aimers_15, s_Army_aimers_16 (ar_rcv h), s_Army_aimers_19, s_Army_aimers_20, s_Army_aimers_23, s_Army_aimers_26, s_Army_aimers_29, s_Army_aimers_32, s_Army_aimers_33, ar_men h, mn_2 hn, if_neg (nI_ge (show m < 2 * n by omega) (show 2 * n < 2 ^ 31 by omega)), aim_in h hn (show m < 2 * n by omega), fold2, aimN, Option.bind_some, Option.toList_some, Option.toList_none, List.cons_append, List.nil_append, i10, i01, if_false, if_true, nI_add, nI_1, ih (m + 1) _ (show m + 1 + c = 2 * n by omega)]
    split <;> rfl
theorem aims_in {n : Nat} (h : Ar a) (hn : Mn I a n) : rn F (lv + 4) 17 [.ref a] (HH I J) = some (some (.int (fold2 (aimN I a n) 0 (2 * n) 0)), HH I J) := by
  simp only [e_Army_aimers, s_Army_aimers_0, s_Army_aimers_1, s_Army_aimers_2, s_Army_aimers_3, s_Army_aimers_5, s_Army_aimers_6, s_Army_aimers_7, s_Army_aimers_10, s_Army_aimers_11, s_Army_aimers_14, s_Army_aimers_15, s_Army_aimers_19, s_Army_aimers_20, s_Army_aimers_23, s_Army_aimers_26, s_Army_aimers_29, s_Army_aimers_32, s_Army_aimers_33]
  exact aims_loop h hn (2 * n) 0 0 (by omega)
def fldF (I : Nat → Nat → Int32) (a : Nat) (m : Nat) (b : Int32) : Int32 := if I (a + 2) m = 0 then b else b ||| (1 <<< (nI m &&& 31))
theorem fld_loop {n : Nat} (h : Ar a) (hn : Mn I a n) : ∀ (c m : Nat) (b : Int32), m + c = 2 * n → ev F (lv + 2) jm_Army_inField 4 [.ref a, .int b, .int (nI m)] [] (HH I J) = some (some (.int (fold2 (fldF I a) m c b)), HH I J) := by
  have := hn.2.2
  intro c
  induction c with
  | zero =>
    intro m b hm
    obtain rfl : m = 2 * n := by omega
    simp only [s_Army_inField_0, s_Army_inField_1, s_Army_inField_2, s_Army_inField_3, s_Army_inField_4, s_Army_inField_5, s_Army_inField_6, s_Army_inField_7, s_Army_inField_10, s_Army_inField_11, s_Army_inField_14, s_Army_inField_15, s_Army_inField_16 (ar_rcv h), s_Army_inField_19, s_Army_inField_22, s_Army_inField_23, s_Army_inField_24, s_Army_inField_25, s_Army_inField_26, s_Army_inField_27, s_Army_inField_28, s_Army_inField_31, s_Army_inField_34, s_Army_inField_35, ar_men h, mn_2 hn, if_pos (nI_le (Nat.le_refl (2 * n)) (show 2 * n < 2 ^ 31 by omega)), fold2]
  | succ c ih =>
    intro m b hm
    rw [s_Army_inField_4]
    simp only [s_Army_inField_0, s_Army_inField_1, s_Army_inField_2, s_Army_inField_3, s_Army_inField_5, s_Army_inField_6, s_Army_inField_7, s_Army_inField_10, s_Army_inField_11, s_Army_inField_14, s_Army_inField_15, s_Army_inField_16 (ar_rcv h), s_Army_inField_19, s_Army_inField_22, s_Army_inField_23, s_Army_inField_24, s_Army_inField_25, s_Army_inField_26, s_Army_inField_27, s_Army_inField_28, s_Army_inField_31, s_Army_inField_34, s_Army_inField_35, ar_men h, mn_2 hn, if_neg (nI_ge (show m < 2 * n by omega) (show 2 * n < 2 ^ 31 by omega)), home_in h hn (show m < 2 * n by omega), fold2, fldF]
    by_cases q : I (a + 2) m = 0
    · simp only [q, s_Army_inField_0, s_Army_inField_1, s_Army_inField_2, s_Army_inField_3, s_Army_inField_5, s_Army_inField_6, s_Army_inField_7, s_Army_inField_10, s_Army_inField_11, s_Army_inField_14, s_Army_inField_15, s_Army_inField_19, s_Army_inField_22, s_Army_inField_23, s_Army_inField_24, s_Army_inField_25, s_Army_inField_26, s_Army_inField_27, s_Army_inField_28, s_Army_inField_31, s_Army_inField_34, s_Army_inField_35, Option.bind_some, Option.toList_some, Option.toList_none, List.cons_append, List.nil_append, i10, i01, if_false, if_true, nI_add, nI_1, ih (m + 1) _ (show m + 1 + c = 2 * n by omega)]
    · simp only [q, s_Army_inField_0, s_Army_inField_1, s_Army_inField_2, s_Army_inField_3, s_Army_inField_5, s_Army_inField_6, s_Army_inField_7, s_Army_inField_10, s_Army_inField_11, s_Army_inField_14, s_Army_inField_15, s_Army_inField_19, s_Army_inField_22, s_Army_inField_23, s_Army_inField_24, s_Army_inField_25, s_Army_inField_26, s_Army_inField_27, s_Army_inField_28, s_Army_inField_31, s_Army_inField_34, s_Army_inField_35, Option.bind_some, Option.toList_some, Option.toList_none, List.cons_append, List.nil_append, i10, i01, if_false, if_true, nI_add, nI_1, ih (m + 1) _ (show m + 1 + c = 2 * n by omega)]
theorem fld_in {n : Nat} (h : Ar a) (hn : Mn I a n) : rn F (lv + 2) 18 [.ref a] (HH I J) = some (some (.int (fold2 (fldF I a) 0 (2 * n) 0)), HH I J) := by
  simp only [e_Army_inField, s_Army_inField_0, s_Army_inField_1, s_Army_inField_2, s_Army_inField_3, s_Army_inField_5, s_Army_inField_6, s_Army_inField_7, s_Army_inField_10, s_Army_inField_11, s_Army_inField_14, s_Army_inField_15, s_Army_inField_19, s_Army_inField_22, s_Army_inField_23, s_Army_inField_24, s_Army_inField_25, s_Army_inField_26, s_Army_inField_27, s_Army_inField_28, s_Army_inField_31, s_Army_inField_34, s_Army_inField_35]
  exact fld_loop h hn (2 * n) 0 0 (by omega)
def lftF (I : Nat → Nat → Int32) (a : Nat) (m : Nat) (b : Int32) : Int32 := if I (a + 2) m = 0 then b else b + 1
theorem lft_loop {n lo : Nat} {s : Int32} (h : Ar a) (hn : Mn I a n) (hlo : lo + n ≤ 2 * n) : ∀ (c m : Nat) (b : Int32), m + c = lo + n → ev F (lv + 2) jm_Army_leftOf 11 [.ref a, .int s, .int b, .int (nI lo), .int (nI m)] [] (HH I J) = some (some (.int (fold2 (lftF I a) m c b)), HH I J) := by
  have := hn.2.2
  intro c
  induction c with
  | zero =>
    intro m b hm
    obtain rfl : m = lo + n := by omega
    simp only [s_Army_leftOf_0, s_Army_leftOf_1, s_Army_leftOf_2, s_Army_leftOf_3, s_Army_leftOf_4 (ar_rcv h), s_Army_leftOf_7, s_Army_leftOf_8, s_Army_leftOf_9, s_Army_leftOf_11, s_Army_leftOf_13, s_Army_leftOf_14, s_Army_leftOf_15, s_Army_leftOf_18, s_Army_leftOf_19, s_Army_leftOf_22, s_Army_leftOf_23, s_Army_leftOf_25 (ar_rcv h), s_Army_leftOf_28, s_Army_leftOf_31, s_Army_leftOf_34, s_Army_leftOf_37, s_Army_leftOf_40, s_Army_leftOf_41, ar_men h, hn.1, nI_add, if_pos (nI_le (Nat.le_refl (lo + n)) (show lo + n < 2 ^ 31 by omega)), fold2]
  | succ c ih =>
    intro m b hm
    rw [s_Army_leftOf_11]
    simp only [s_Army_leftOf_0, s_Army_leftOf_1, s_Army_leftOf_2, s_Army_leftOf_3, s_Army_leftOf_4 (ar_rcv h), s_Army_leftOf_7, s_Army_leftOf_8, s_Army_leftOf_9, s_Army_leftOf_13, s_Army_leftOf_14, s_Army_leftOf_15, s_Army_leftOf_18, s_Army_leftOf_19, s_Army_leftOf_22, s_Army_leftOf_23, s_Army_leftOf_25 (ar_rcv h), s_Army_leftOf_28, s_Army_leftOf_31, s_Army_leftOf_34, s_Army_leftOf_37, s_Army_leftOf_40, s_Army_leftOf_41, ar_men h, hn.1, nI_add, if_neg (nI_ge (show m < lo + n by omega) (show lo + n < 2 ^ 31 by omega)), home_in h hn (show m < 2 * n by omega), fold2, lftF]
    by_cases q : I (a + 2) m = 0
    · simp only [q, s_Army_leftOf_0, s_Army_leftOf_1, s_Army_leftOf_2, s_Army_leftOf_3, s_Army_leftOf_7, s_Army_leftOf_8, s_Army_leftOf_9, s_Army_leftOf_13, s_Army_leftOf_14, s_Army_leftOf_15, s_Army_leftOf_18, s_Army_leftOf_19, s_Army_leftOf_22, s_Army_leftOf_23, s_Army_leftOf_28, s_Army_leftOf_31, s_Army_leftOf_34, s_Army_leftOf_37, s_Army_leftOf_40, s_Army_leftOf_41, Option.bind_some, Option.toList_some, Option.toList_none, List.cons_append, List.nil_append, i10, i01, if_false, if_true, nI_add, nI_1, ih (m + 1) _ (show m + 1 + c = lo + n by omega)]
    · simp only [q, s_Army_leftOf_0, s_Army_leftOf_1, s_Army_leftOf_2, s_Army_leftOf_3, s_Army_leftOf_7, s_Army_leftOf_8, s_Army_leftOf_9, s_Army_leftOf_13, s_Army_leftOf_14, s_Army_leftOf_15, s_Army_leftOf_18, s_Army_leftOf_19, s_Army_leftOf_22, s_Army_leftOf_23, s_Army_leftOf_28, s_Army_leftOf_31, s_Army_leftOf_34, s_Army_leftOf_37, s_Army_leftOf_40, s_Army_leftOf_41, Option.bind_some, Option.toList_some, Option.toList_none, List.cons_append, List.nil_append, i10, i01, if_false, if_true, nI_add, nI_1, ih (m + 1) _ (show m + 1 + c = lo + n by omega)]
theorem lft0_in {n : Nat} (h : Ar a) (hn : Mn I a n) : rn F (lv + 2) 19 [.ref a, .int 0] (HH I J) = some (some (.int (fold2 (lftF I a) 0 n 0)), HH I J) := by
  simp only [e_Army_leftOf, s_Army_leftOf_0, s_Army_leftOf_1, s_Army_leftOf_2, s_Army_leftOf_3, s_Army_leftOf_4 (ar_rcv h), s_Army_leftOf_7, s_Army_leftOf_8, s_Army_leftOf_9, s_Army_leftOf_13, s_Army_leftOf_14, s_Army_leftOf_15, s_Army_leftOf_18, s_Army_leftOf_19, s_Army_leftOf_22, s_Army_leftOf_23, s_Army_leftOf_25 (ar_rcv h), s_Army_leftOf_28, s_Army_leftOf_31, s_Army_leftOf_34, s_Army_leftOf_37, s_Army_leftOf_40, s_Army_leftOf_41, first_eq h, Option.bind_some, Option.toList_some, Option.toList_none, List.cons_append, List.nil_append, i10, i01, if_false, if_true, nI_add, nI_1]
  exact lft_loop h hn (lo := 0) (by omega) n 0 0 (by omega)
theorem lft1_in {n : Nat} (h : Ar a) (hn : Mn I a n) : rn F (lv + 2) 19 [.ref a, .int 1] (HH I J) = some (some (.int (fold2 (lftF I a) n n 0)), HH I J) := by
  simp only [e_Army_leftOf, s_Army_leftOf_0, s_Army_leftOf_1, s_Army_leftOf_2, s_Army_leftOf_3, s_Army_leftOf_4 (ar_rcv h), s_Army_leftOf_7, s_Army_leftOf_8, s_Army_leftOf_9, s_Army_leftOf_13, s_Army_leftOf_14, s_Army_leftOf_15, s_Army_leftOf_18, s_Army_leftOf_19, s_Army_leftOf_22, s_Army_leftOf_23, s_Army_leftOf_25 (ar_rcv h), s_Army_leftOf_28, s_Army_leftOf_31, s_Army_leftOf_34, s_Army_leftOf_37, s_Army_leftOf_40, s_Army_leftOf_41, first_eq h, Option.bind_some, Option.toList_some, Option.toList_none, List.cons_append, List.nil_append, i10, i01, if_false, if_true, nI_add, nI_1, hn.1]
  exact lft_loop h hn (lo := n) (by omega) n n 0 (by omega)
end Arm
