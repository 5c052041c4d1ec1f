/-! ===== the Model: small ones ===== -/
theorem i64_lt {x y : Int32} : x.toInt64 < y.toInt64 ↔ x < y := by
  rw [Int64.lt_iff_toInt_lt, Int32.lt_iff_toInt_lt, Int32.toInt_toInt64, Int32.toInt_toInt64]
/-- the Model's row from b on is the class's army at a -/
def Rw (C : Nat → Nat → Int32) (a : Nat) (I : Nat → Nat → Int32) (b n : Nat) : Prop :=
  Wf C a n ∧ b ≤ 222 ∧ I 74 17 = nI n ∧ (∀ j, j < 2 * n → I 74 (18 + j) = C (a + 1) j) ∧ (∀ j, j < 2 * n → I 74 (b + j) = C (a + 2) j) ∧ (∀ j, j < 2 * n → I 74 (b + 8 + j) = C (a + 3) j) ∧ I 74 (b + 16) = C a 4
section Mdl
variable {F : jx_F} {lv : Nat} {I C : Nat → Nat → Int32} {J : Nat → Nat → Int64} {a b n : Nat}
theorem Rw.wf (h : Rw C a I b n) : Wf C a n := h.1
theorem Rw.ba (h : Rw C a I b n) : b ≤ 222 := h.2.1
theorem Rw.nn (h : Rw C a I b n) : I 74 17 = nI n := h.2.2.1
theorem Rw.k (h : Rw C a I b n) {j : Nat} (hj : j < 2 * n) : I 74 (18 + j) = C (a + 1) j := h.2.2.2.1 j hj
theorem Rw.bt (h : Rw C a I b n) {j : Nat} (hj : j < 2 * n) : I 74 (b + j) = C (a + 2) j := h.2.2.2.2.1 j hj
theorem Rw.md (h : Rw C a I b n) {j : Nat} (hj : j < 2 * n) : I 74 (b + 8 + j) = C (a + 3) j := h.2.2.2.2.2.1 j hj
theorem Rw.dy (h : Rw C a I b n) : I 74 (b + 16) = C a 4 := h.2.2.2.2.2.2
theorem Rw.ms (h : Rw C a I b n) : 1 ≤ n ∧ n ≤ 4 := h.1.1.2
theorem in_int {h : jx_H} {x lo hi : Int32} : rn F lv 103 [.long x.toInt64, .long lo.toInt64, .long hi.toInt64] h = some (some (.int (if x < lo then 0 else if hi < x then 0 else 1)), h) := by
  simp only [e_Model_in, s_Model_in_0, s_Model_in_1, s_Model_in_2, s_Model_in_3, s_Model_in_6, s_Model_in_7, s_Model_in_9, s_Model_in_10, s_Model_in_13, s_Model_in_14, s_Model_in_17, rz_Model_in_18, ro_Model_in_18, lg_cmp_lt, lg_cmp_gt, i64_lt]
  split
  · rfl
  · split <;> rfl
theorem g74 {α : Type} {k : Nat} {f : Int32 → Option α} (hk : k < 239) : jx_gi (HH I J) 0 74 (nI k) f = f (I 74 k) := by
  rw [gi_74, at_in hk (by decide), nI_clamp (by omega)]
theorem p74 {α : Type} {k : Nat} {x : Int32} {f : jx_H → Option α} (hk : k < 239) : jx_pi (HH I J) 0 74 (nI k) x f = f (HH (up2 I 74 k x) J) := by
  rw [pi_74, at_in hk (by decide), nI_clamp (by omega)]
theorem men_in (e : I 74 17 = nI n) : rn F lv 124 [.ref 73] (HH I J) = some (some (.int (nI (2 * n))), HH I J) := by
  have e17 : (17 : Int32) = nI 17 := rfl
  simp only [e_Model_men, s_Model_men_0, s_Model_men_1, s_Model_men_2, s_Model_men_5, s_Model_men_7, s_Model_men_8, s_Model_men_9, g_73_0, e17, g74 (show 17 < 239 by decide), e, show (2 : Int32) * nI n = nI (2 * n) from pk_mul 2 n]
theorem isMan_in {m : Int32} (e : I 74 17 = nI n) (h : 1 ≤ n ∧ n ≤ 4) : rn F (lv + 1) 125 [.ref 73, .int m] (HH I J) = some (some (.int (if m < 0 then 0 else if nI (2 * n) ≤ m then 0 else 1)), HH I J) := by
  have q : nI (2 * n) - 1 < m ↔ nI (2 * n) ≤ m := by
    rw [show nI (2 * n) - 1 = nI (2 * n - 1) from pk_sub (show 1 ≤ 2 * n by omega), Int32.lt_iff_toInt_lt, Int32.le_iff_toInt_le, nI_toInt (show 2 * n < 2 ^ 31 by omega), nI_toInt (show 2 * n - 1 < 2 ^ 31 by omega)]
    omega
  simp only [e_Model_isMan, s_Model_isMan_0, s_Model_isMan_1, s_Model_isMan_2, s_Model_isMan_3, s_Model_isMan_4 rcv_73, s_Model_isMan_7, s_Model_isMan_8, s_Model_isMan_9, s_Model_isMan_10, men_in e, Option.bind_some, Option.toList_some, Option.toList_none, List.cons_append, List.nil_append, i10, i01, if_false, if_true, nI_add, nI_1, show (0 : Int64) = (0 : Int32).toInt64 from rfl, in_int, q]
  by_cases h0 : m < 0
  · simp only [if_pos h0, s_Model_isMan_0, s_Model_isMan_1, s_Model_isMan_2, s_Model_isMan_3, s_Model_isMan_4 rcv_73, s_Model_isMan_7, s_Model_isMan_8, s_Model_isMan_9, s_Model_isMan_10, rz_Model_isMan_13, ro_Model_isMan_13]
  · by_cases h1 : nI (2 * n) ≤ m
    · simp only [if_neg h0, if_pos h1, s_Model_isMan_0, s_Model_isMan_1, s_Model_isMan_2, s_Model_isMan_3, s_Model_isMan_4 rcv_73, s_Model_isMan_7, s_Model_isMan_8, s_Model_isMan_9, s_Model_isMan_10, rz_Model_isMan_13, ro_Model_isMan_13]
    · simp only [if_neg h0, if_neg h1, s_Model_isMan_0, s_Model_isMan_1, s_Model_isMan_2, s_Model_isMan_3, s_Model_isMan_4 rcv_73, s_Model_isMan_7, s_Model_isMan_8, s_Model_isMan_9, s_Model_isMan_10, rz_Model_isMan_13, ro_Model_isMan_13]
theorem mside_in {j : Nat} (e : I 74 17 = nI n) (h : 1 ≤ n ∧ n ≤ 4) (hj : j < 2 * n) : rn F lv 126 [.ref 73, .int (nI j)] (HH I J) = some (some (.int (if n ≤ j then 1 else 0)), HH I J) := by
  have e17 : (17 : Int32) = nI 17 := rfl
  simp only [e_Model_sideOf, s_Model_sideOf_0, s_Model_sideOf_1, s_Model_sideOf_2, s_Model_sideOf_5, s_Model_sideOf_7, s_Model_sideOf_8, s_Model_sideOf_11, s_Model_sideOf_12, s_Model_sideOf_15, s_Model_sideOf_16, g_73_0, e17, g74 (show 17 < 239 by decide), e, nI_leI (show n < 2 ^ 31 by omega) (show j < 2 ^ 31 by omega)]
  split <;> rfl
theorem out_in {j : Nat} (h : Rw C a I b n) (hj : j < 2 * n) : rn F lv 127 [.ref 73, .int (nI b), .int (nI j)] (HH I J) = some (some (.int (if C (a + 2) j ≤ 0 then 0 else 1)), HH I J) := by
  have h1 := h.ba
  have h2 := h.ms
  have e0 : nI b + 0 = nI b := nI_add b 0
  simp only [e_Model_isOut, s_Model_isOut_0, s_Model_isOut_1, s_Model_isOut_4, s_Model_isOut_5, s_Model_isOut_6, s_Model_isOut_7, s_Model_isOut_8, s_Model_isOut_9, s_Model_isOut_10, s_Model_isOut_13, s_Model_isOut_14, s_Model_isOut_17, rz_Model_isOut_18, ro_Model_isOut_18, g_73_0, e0, nI_add, g74 (show b + j < 239 by omega), h.bt hj]
  split <;> rfl
theorem mopen_in {j o : Nat} (h : Rw C a I b n) (hj : j < 2 * n) (ho : o < 2 * n) : rn F (lv + 1) 128 [.ref 73, .int (nI b), .int (nI j), .int (nI o)] (HH I J) = some (some (.int (if (n ≤ j ↔ n ≤ o) then 0 else if C (a + 2) o ≤ 0 then 0 else if C (a + 3) j = nI o then 0 else 1)), HH I J) := by
  have h1 := h.ba
  have h2 := h.ms
  have e8 : (8 : Int32) = nI 8 := rfl
  have q : ((if n ≤ j then 1 else 0 : Int32) = (if n ≤ o then 1 else 0)) ↔ (n ≤ j ↔ n ≤ o) := by
    by_cases q1 : n ≤ j <;> by_cases q2 : n ≤ o <;> simp [q1, q2]
  simp only [e_Model_isOpen, s_Model_isOpen_0, s_Model_isOpen_1, s_Model_isOpen_2 rcv_73, s_Model_isOpen_5, s_Model_isOpen_6, s_Model_isOpen_7 rcv_73, s_Model_isOpen_10, s_Model_isOpen_13, s_Model_isOpen_14, s_Model_isOpen_15, s_Model_isOpen_16 rcv_73, s_Model_isOpen_19, s_Model_isOpen_22, s_Model_isOpen_23, s_Model_isOpen_26, s_Model_isOpen_27, s_Model_isOpen_29, s_Model_isOpen_30, s_Model_isOpen_31, s_Model_isOpen_32, s_Model_isOpen_33, s_Model_isOpen_34, s_Model_isOpen_37, s_Model_isOpen_38, s_Model_isOpen_41, rz_Model_isOpen_42, ro_Model_isOpen_42, mside_in h.nn h2 hj, mside_in h.nn h2 ho, Option.bind_some, Option.toList_some, List.cons_append, List.nil_append, q, out_in h ho, g_73_0, e8, nI_add, g74 (show b + 8 + j < 239 by omega), h.md hj]
  by_cases q1 : (n ≤ j ↔ n ≤ o)
  · simp only [if_pos q1]
  · simp only [if_neg q1]
    by_cases q2 : C (a + 2) o ≤ 0
    · simp only [if_pos q2, if_true]
    · simp only [if_neg q2, if_neg (show ¬ (1 : Int32) = 0 by decide)]
      split <;> rfl
theorem mhit_eq {h : jx_H} {k : Int32} : rn F lv 129 [.int k] h = some (some (.int (if k = 2 then 2 else 1)), h) := by
  simp only [e_Model_hitsBy, s_Model_hitsBy_0, s_Model_hitsBy_1, s_Model_hitsBy_2, s_Model_hitsBy_5, s_Model_hitsBy_6, s_Model_hitsBy_9, s_Model_hitsBy_10]
  split <;> rfl
end Mdl
