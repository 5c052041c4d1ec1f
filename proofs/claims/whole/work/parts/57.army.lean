/-! ===== Army: more counts, takeFrom ===== -/
section Arm
variable {F : jx_F} {lv : Nat} {I : Nat → Nat → Int32} {J : Nat → Nat → Int64} {a : Nat}
theorem lftb_in {n : Nat} (h : Ar a) (hn : Mn I a n) : rn F (lv + 3) 20 [.ref a] (HH I J) = some (some (.int (fold2 (lftF I a) 0 n 0 + fold2 (lftF I a) n n 0)), HH I J) := by
  simp only [e_Army_leftOfBoth, s_Army_leftOfBoth_0, s_Army_leftOfBoth_1, s_Army_leftOfBoth_2 (ar_rcv h), s_Army_leftOfBoth_5, s_Army_leftOfBoth_6, s_Army_leftOfBoth_7 (ar_rcv h), s_Army_leftOfBoth_10, s_Army_leftOfBoth_11, lft0_in h hn, lft1_in h hn, Option.bind_some, Option.toList_some, Option.toList_none, List.cons_append, List.nil_append, i10, i01, if_false, if_true, nI_add, nI_1]
def butF (I : Nat → Nat → Int32) (a : Nat) (m : Nat) (b : Int32) : Int32 := b + I (a + 2) m
theorem but_loop {n lo : Nat} {s : Int32} (h : Ar a) (hn : Mn I a n) (hlo : lo + n ≤ 2 * n) : ∀ (c m : Nat) (b : Int32), m + c = lo + n → ev F (lv + 1) jm_Army_buttonsOf 11 [.ref a, .int s, .int b, .int (nI lo), .int (nI m)] [] (HH I J) = some (some (.int (fold2 (butF I a) m c b)), HH I J) := by
  have := hn.2.2
  intro c
  induction c with
  | zero =>
    intro m b hm
    obtain rfl : m = lo + n := by omega
    simp only [s_Army_buttonsOf_0, s_Army_buttonsOf_1, s_Army_buttonsOf_2, s_Army_buttonsOf_3, s_Army_buttonsOf_4 (ar_rcv h), s_Army_buttonsOf_7, s_Army_buttonsOf_8, s_Army_buttonsOf_9, s_Army_buttonsOf_11, s_Army_buttonsOf_13, s_Army_buttonsOf_14, s_Army_buttonsOf_15, s_Army_buttonsOf_18, s_Army_buttonsOf_19, s_Army_buttonsOf_22, s_Army_buttonsOf_23, s_Army_buttonsOf_25 (ar_rcv h), s_Army_buttonsOf_28, s_Army_buttonsOf_31, s_Army_buttonsOf_32, s_Army_buttonsOf_33, s_Army_buttonsOf_36, s_Army_buttonsOf_38, s_Army_buttonsOf_39, s_Army_buttonsOf_40, s_Army_buttonsOf_41, s_Army_buttonsOf_44, s_Army_buttonsOf_47, s_Army_buttonsOf_48, ar_men h, hn.1, nI_add, if_pos (nI_le (Nat.le_refl (lo + n)) (show lo + n < 2 ^ 31 by omega)), fold2]
  | succ c ih =>
    intro m b hm
    rw [s_Army_buttonsOf_11]
    simp only [s_Army_buttonsOf_0, s_Army_buttonsOf_1, s_Army_buttonsOf_2, s_Army_buttonsOf_3, s_Army_buttonsOf_4 (ar_rcv h), s_Army_buttonsOf_7, s_Army_buttonsOf_8, s_Army_buttonsOf_9, s_Army_buttonsOf_13, s_Army_buttonsOf_14, s_Army_buttonsOf_15, s_Army_buttonsOf_18, s_Army_buttonsOf_19, s_Army_buttonsOf_22, s_Army_buttonsOf_23, s_Army_buttonsOf_25 (ar_rcv h), s_Army_buttonsOf_28, s_Army_buttonsOf_31, s_Army_buttonsOf_32, s_Army_buttonsOf_33, s_Army_buttonsOf_36, s_Army_buttonsOf_38, s_Army_buttonsOf_39, s_Army_buttonsOf_40, s_Army_buttonsOf_41, s_Army_buttonsOf_44, s_Army_buttonsOf_47, s_Army_buttonsOf_48, ar_men h, hn.1, nI_add, if_neg (nI_ge (show m < lo + n by omega) (show lo + n < 2 ^ 31 by omega)), has_in h hn (show m < 2 * n by omega), ar_but h, ar_g2 h, at_in (show m < 8 by omega) (by decide), nI_clamp (show m < 2 ^ 31 by omega), fold2, butF, Option.bind_some, Option.toList_some, List.cons_append, List.nil_append, i10, if_false, nI_1, ih (m + 1) _ (show m + 1 + c = lo + n by omega)]
theorem but0_in {n : Nat} (h : Ar a) (hn : Mn I a n) : rn F (lv + 1) 21 [.ref a, .int 0] (HH I J) = some (some (.int (fold2 (butF I a) 0 n 0)), HH I J) := by
  simp only [e_Army_buttonsOf, s_Army_buttonsOf_0, s_Army_buttonsOf_1, s_Army_buttonsOf_2, s_Army_buttonsOf_3, s_Army_buttonsOf_4 (ar_rcv h), s_Army_buttonsOf_7, s_Army_buttonsOf_8, s_Army_buttonsOf_9, s_Army_buttonsOf_13, s_Army_buttonsOf_14, s_Army_buttonsOf_15, s_Army_buttonsOf_18, s_Army_buttonsOf_19, s_Army_buttonsOf_22, s_Army_buttonsOf_23, s_Army_buttonsOf_25 (ar_rcv h), s_Army_buttonsOf_28, s_Army_buttonsOf_31, s_Army_buttonsOf_32, s_Army_buttonsOf_33, s_Army_buttonsOf_36, s_Army_buttonsOf_38, s_Army_buttonsOf_39, s_Army_buttonsOf_40, s_Army_buttonsOf_41, s_Army_buttonsOf_44, s_Army_buttonsOf_47, s_Army_buttonsOf_48, first_eq h, Option.bind_some, Option.toList_some, Option.toList_none, List.cons_append, List.nil_append, i10, i01, if_false, if_true, nI_add, nI_1]
  exact but_loop h hn (lo := 0) (by omega) n 0 0 (by omega)
theorem but1_in {n : Nat} (h : Ar a) (hn : Mn I a n) : rn F (lv + 1) 21 [.ref a, .int 1] (HH I J) = some (some (.int (fold2 (butF I a) n n 0)), HH I J) := by
  simp only [e_Army_buttonsOf, s_Army_buttonsOf_0, s_Army_buttonsOf_1, s_Army_buttonsOf_2, s_Army_buttonsOf_3, s_Army_buttonsOf_4 (ar_rcv h), s_Army_buttonsOf_7, s_Army_buttonsOf_8, s_Army_buttonsOf_9, s_Army_buttonsOf_13, s_Army_buttonsOf_14, s_Army_buttonsOf_15, s_Army_buttonsOf_18, s_Army_buttonsOf_19, s_Army_buttonsOf_22, s_Army_buttonsOf_23, s_Army_buttonsOf_25 (ar_rcv h), s_Army_buttonsOf_28, s_Army_buttonsOf_31, s_Army_buttonsOf_32, s_Army_buttonsOf_33, s_Army_buttonsOf_36, s_Army_buttonsOf_38, s_Army_buttonsOf_39, s_Army_buttonsOf_40, s_Army_buttonsOf_41, s_Army_buttonsOf_44, s_Army_buttonsOf_47, s_Army_buttonsOf_48, first_eq h, Option.bind_some, Option.toList_some, Option.toList_none, List.cons_append, List.nil_append, i10, i01, if_false, if_true, nI_add, nI_1, hn.1]
  exact but_loop h hn (lo := n) (by omega) n n 0 (by omega)
/-- x to the c-th, times p -/
def powI (x : Int32) : Nat → Int32 → Int32
  | 0, p => p
  | c + 1, p => powI x c (p * x)
theorem pow_loop {h : jx_H} {x : Int32} {E : Nat} (hE : E < 2 ^ 31) : ∀ (c e : Nat) (p : Int32), e + c = E → ev F lv jm_Army_powerOf 4 [.int x, .int (nI E), .int p, .int (nI e)] [] h = some (some (.int (powI x c p)), h) := by
  intro c
  induction c with
  | zero =>
    intro e p he
    obtain rfl : e = E := by omega
    rw [s_Army_powerOf_4]
    simp only [s_Army_powerOf_0, s_Army_powerOf_1, s_Army_powerOf_2, s_Army_powerOf_3, s_Army_powerOf_5, s_Army_powerOf_6, s_Army_powerOf_9, s_Army_powerOf_10, s_Army_powerOf_11, s_Army_powerOf_12, s_Army_powerOf_13, s_Army_powerOf_16, s_Army_powerOf_19, s_Army_powerOf_20, if_pos (nI_le (Nat.le_refl e) hE), powI]
  | succ c ih =>
    intro e p he
    rw [s_Army_powerOf_4]
    simp only [s_Army_powerOf_0, s_Army_powerOf_1, s_Army_powerOf_2, s_Army_powerOf_3, s_Army_powerOf_5, s_Army_powerOf_6, s_Army_powerOf_9, s_Army_powerOf_10, s_Army_powerOf_11, s_Army_powerOf_12, s_Army_powerOf_13, s_Army_powerOf_16, s_Army_powerOf_19, s_Army_powerOf_20, if_neg (nI_ge (show e < E by omega) hE), nI_1, ih (e + 1) _ (show e + 1 + c = E by omega), powI]
theorem pow_in {h : jx_H} {x : Int32} {E : Nat} (hE : E < 2 ^ 31) : rn F lv 26 [.int x, .int (nI E)] h = some (some (.int (powI x E 1)), h) := by
  simp only [e_Army_powerOf, s_Army_powerOf_0, s_Army_powerOf_1, s_Army_powerOf_2, s_Army_powerOf_3, s_Army_powerOf_5, s_Army_powerOf_6, s_Army_powerOf_9, s_Army_powerOf_10, s_Army_powerOf_11, s_Army_powerOf_12, s_Army_powerOf_13, s_Army_powerOf_16, s_Army_powerOf_19, s_Army_powerOf_20]
  exact pow_loop hE E 0 1 (by omega)
def htsF (I : Nat → Nat → Int32) (a : Nat) (s : Int32) (m : Nat) (b : Int32) : Int32 := if (s >>> (nI m &&& 31)) &&& 1 = 0 then b else b + (if I (a + 1) m = 2 then 2 else 1)
theorem hts_loop {n : Nat} {s : Int32} (h : Ar a) (hn : Mn I a n) : ∀ (c m : Nat) (b : Int32), m + c = 2 * n → ev F (lv + 1) jm_Army_hitsOf 4 [.ref a, .int s, .int b, .int (nI m)] [] (HH I J) = some (some (.int (fold2 (htsF I a s) m c b)), HH I J) := by
  have := hn.2.2
  intro c
  induction c with
  | zero =>
    intro m b hm
    obtain rfl : m = 2 * n := by omega
    rw [s_Army_hitsOf_4]
    simp only [s_Army_hitsOf_0, s_Army_hitsOf_1, s_Army_hitsOf_2, s_Army_hitsOf_3, s_Army_hitsOf_5, s_Army_hitsOf_6, s_Army_hitsOf_7, s_Army_hitsOf_10, s_Army_hitsOf_11, s_Army_hitsOf_14, s_Army_hitsOf_15, s_Army_hitsOf_16, s_Army_hitsOf_17, s_Army_hitsOf_18, s_Army_hitsOf_19, s_Army_hitsOf_22, s_Army_hitsOf_23, s_Army_hitsOf_24, s_Army_hitsOf_27, s_Army_hitsOf_28, s_Army_hitsOf_29, s_Army_hitsOf_32, s_Army_hitsOf_33, s_Army_hitsOf_34, s_Army_hitsOf_37, s_Army_hitsOf_40, s_Army_hitsOf_41, ar_men h, mn_2 hn, if_pos (nI_le (Nat.le_refl (2 * n)) (show 2 * n < 2 ^ 31 by omega)), fold2]
  | succ c ih =>
    intro m b hm
    rw [s_Army_hitsOf_4]
    simp only [s_Army_hitsOf_0, s_Army_hitsOf_1, s_Army_hitsOf_2, s_Army_hitsOf_3, s_Army_hitsOf_5, s_Army_hitsOf_6, s_Army_hitsOf_7, s_Army_hitsOf_10, s_Army_hitsOf_11, s_Army_hitsOf_14, s_Army_hitsOf_15, s_Army_hitsOf_16, s_Army_hitsOf_17, s_Army_hitsOf_18, s_Army_hitsOf_19, s_Army_hitsOf_22, s_Army_hitsOf_23, s_Army_hitsOf_24, s_Army_hitsOf_27, s_Army_hitsOf_28, s_Army_hitsOf_29, s_Army_hitsOf_32, s_Army_hitsOf_33, s_Army_hitsOf_34, s_Army_hitsOf_37, s_Army_hitsOf_40, s_Army_hitsOf_41, ar_men h, mn_2 hn, if_neg (nI_ge (show m < 2 * n by omega) (show 2 * n < 2 ^ 31 by omega)), ar_kind h, ar_g1 h, at_in (show m < 8 by omega) (by decide), nI_clamp (show m < 2 ^ 31 by omega), hit_eq, fold2, htsF, Option.bind_some, Option.toList_some, List.cons_append, List.nil_append, nI_1, ih (m + 1) _ (show m + 1 + c = 2 * n by omega)]
    split <;> rfl
theorem hts_in {n : Nat} {s : Int32} (h : Ar a) (hn : Mn I a n) : rn F (lv + 1) 25 [.ref a, .int s] (HH I J) = some (some (.int (fold2 (htsF I a s) 0 (2 * n) 0)), HH I J) := by
  simp only [e_Army_hitsOf, s_Army_hitsOf_0, s_Army_hitsOf_1, s_Army_hitsOf_2, s_Army_hitsOf_3, s_Army_hitsOf_5, s_Army_hitsOf_6, s_Army_hitsOf_7, s_Army_hitsOf_10, s_Army_hitsOf_11, s_Army_hitsOf_14, s_Army_hitsOf_15, s_Army_hitsOf_16, s_Army_hitsOf_17, s_Army_hitsOf_18, s_Army_hitsOf_19, s_Army_hitsOf_22, s_Army_hitsOf_23, s_Army_hitsOf_24, s_Army_hitsOf_27, s_Army_hitsOf_28, s_Army_hitsOf_29, s_Army_hitsOf_32, s_Army_hitsOf_33, s_Army_hitsOf_34, s_Army_hitsOf_37, s_Army_hitsOf_40, s_Army_hitsOf_41]
  exact hts_loop h hn (2 * n) 0 0 (by omega)
end Arm
