/-! ===== left, count ===== -/
section Cal
variable {F : jx_F} {lv : Nat} {I I1 I2 C : Nat → Nat → Int32} {J : Nat → Nat → Int64} {n : Nat}
theorem isSide_eq {h : jx_H} {x : Int32} : rn F lv 95 [.int x] h = some (some (.int (if x = 0 then 1 else if x = 1 then 1 else 0)), h) := by
  simp only [e_Main_isSide, s_Main_isSide_0, s_Main_isSide_1, s_Main_isSide_4, s_Main_isSide_5, s_Main_isSide_6, s_Main_isSide_9, s_Main_isSide_10, s_Main_isSide_13, rz_Main_isSide_14, ro_Main_isSide_14]
  by_cases q : x = 0
  · simp only [if_pos q]
  · simp only [if_neg q]
    by_cases q2 : x = 1
    · simp only [if_pos q2]
    · simp only [if_neg q2]
theorem side_cases (x : Int32) : (x < 0 ∨ (1 : Int32) < x) ∨ x = 0 ∨ x = 1 := by
  rcases pk_ix x (n := 2) (by decide) with q | q | ⟨j, hj, q⟩
  · exact Or.inl (Or.inl q)
  · refine Or.inl (Or.inr ?_)
    rw [Int32.lt_iff_toInt_lt]
    rw [Int32.le_iff_toInt_le] at q
    have e : (nI 2).toInt = 2 := rfl
    have e1 : (1 : Int32).toInt = 1 := rfl
    omega
  · refine Or.inr ?_
    match j, hj with
    | 0, _ => exact Or.inl q
    | 1, _ => exact Or.inr q
theorem side_no {x : Int32} (h : x < 0 ∨ (1 : Int32) < x) : ¬ x = 0 ∧ ¬ x = 1 := by
  constructor
  · rintro rfl; rcases h with h | h <;> exact absurd h (by decide)
  · rintro rfl; rcases h with h | h <;> exact absurd h (by decide)
theorem mleft_loop {s k : Int32} (h : Rw C 9 I 222 n) : ∀ (c m : Nat) (v : Int32), m + c = 2 * n → ev F (lv + 1) jm_Model_left 45 [.ref 73, .int s, .int k, .int v, .int (nI m)] [] (HH I J) = some (some (.int (fold2 (sidF n s (lftF C 9)) m c v)), HH I J) := by
  have h2 := h.ms
  have e222 : (222 : Int32) = nI 222 := rfl
  intro c
  induction c with
  | zero =>
    intro m v hm
    obtain rfl : m = 2 * n := by omega
    rw [s_Model_left_45]
    simp only [s_Model_left_47, s_Model_left_48 rcv_73, s_Model_left_51, men_in h.nn, Option.bind_some, Option.toList_some, List.cons_append, List.nil_append, if_pos (nI_le (Nat.le_refl (2 * n)) (show 2 * n < 2 ^ 31 by omega)), s_Model_left_90, s_Model_left_91, fold2]
  | succ c ih =>
    intro m v hm
    have hm' : m < 2 * n := by omega
    obtain ⟨bm, hbm, ebm⟩ := h.wf.bt m hm'
    have ef : fold2 (sidF n s (lftF C 9)) m (c + 1) v = fold2 (sidF n s (lftF C 9)) (m + 1) c (if (if n ≤ m then (1 : Int32) else 0) = s then (if nI bm = (0 : Int32) then v else v + 1) else v) := by
      show fold2 (sidF n s (lftF C 9)) (m + 1) c (sidF n s (lftF C 9) m v) = _
      unfold sidF lftF
      rw [ebm]
    have o1 := out_in (F := F) (lv := lv) (J := J) h hm'
    rw [ebm] at o1
    simp only [nI_le0 (show bm < 2 ^ 31 by omega)] at o1
    rw [s_Model_left_45, ef]
    simp only [s_Model_left_47, s_Model_left_48 rcv_73, s_Model_left_51, men_in h.nn, Option.bind_some, Option.toList_some, List.cons_append, List.nil_append, if_neg (nI_ge hm' (show 2 * n < 2 ^ 31 by omega)), s_Model_left_54, s_Model_left_55, s_Model_left_56, s_Model_left_58 rcv_73, mside_in h.nn h2 hm', s_Model_left_61, s_Model_left_62]
    generalize (if n ≤ m then (1 : Int32) else 0) = z
    by_cases q : z = s
    · simp only [if_pos q, s_Model_left_65, s_Model_left_66, s_Model_left_69, s_Model_left_71 rcv_73, e222, o1, Option.bind_some, Option.toList_some, List.cons_append, List.nil_append, s_Model_left_74]
      by_cases q2 : nI bm = (0 : Int32)
      · simp only [if_pos q2, if_true, s_Model_left_81, s_Model_left_82, s_Model_left_83, s_Model_left_84, s_Model_left_87, Int32.add_zero, nI_1]
        exact ih (m + 1) _ (by omega)
      · simp only [if_neg q2, if_neg (show ¬ (1 : Int32) = 0 by decide), s_Model_left_77, s_Model_left_78, s_Model_left_82, s_Model_left_83, s_Model_left_84, s_Model_left_87, nI_1]
        exact ih (m + 1) _ (by omega)
    · simp only [if_neg q, s_Model_left_81, s_Model_left_82, s_Model_left_83, s_Model_left_84, s_Model_left_87, Int32.add_zero, nI_1]
      exact ih (m + 1) _ (by omega)
theorem st_left (h : Inv I J) (s k : Int32) : Alk F lv 78 149 [.int s, .int k] I J := by
  obtain ⟨n, ⟨hR, d, hd, ed⟩, _, _⟩ := h.2.2.2.2.2
  have h4 := hR.ms
  have hM := hR.wf.mn
  rcases side_cases s with q | q
  · obtain ⟨q0, q1⟩ := side_no q
    refine ⟨-2, I, I, J, ?_, ?_, h⟩
    · simp only [e_Main_left, s_Main_left_0, s_Main_left_1, s_Main_left_4, s_Main_left_7, s_Main_left_9, s_Main_left_10, s_Main_left_11, s_Main_left_14, s_Main_left_15, s_Main_left_17, s_Main_left_20, s_Main_left_22, s_Main_left_23, s_Main_left_24, s_Main_left_27, s_Main_left_28, s_Main_left_31 (ar_rcv ar_9), s_Main_left_34, s_Main_left_35, s_Main_left_38, s_Main_left_39 (ar_rcv ar_9), s_Main_left_42, s_Main_left_43, s_Main_left_46, s_Main_left_47 (ar_rcv ar_9), s_Main_left_50, isSide_eq, if_neg q0, if_neg q1, Option.bind_some, Option.toList_some, Option.toList_none, List.cons_append, List.nil_append, i10, i01, if_false, if_true, nI_add, nI_1]
    · rcases q with q | q
      · simp only [e_Model_left, s_Model_left_0, s_Model_left_1, s_Model_left_2, s_Model_left_3, s_Model_left_4, s_Model_left_7, s_Model_left_10, s_Model_left_12, i64_0, i64_1, in_int, if_pos q, Option.bind_some, Option.toList_some, Option.toList_none, List.cons_append, List.nil_append, i10, i01, if_false, if_true, nI_add, nI_1]
      · by_cases w : s < 0
        · simp only [e_Model_left, s_Model_left_0, s_Model_left_1, s_Model_left_2, s_Model_left_3, s_Model_left_4, s_Model_left_7, s_Model_left_10, s_Model_left_12, i64_0, i64_1, in_int, if_pos w, Option.bind_some, Option.toList_some, Option.toList_none, List.cons_append, List.nil_append, i10, i01, if_false, if_true, nI_add, nI_1]
        · simp only [e_Model_left, s_Model_left_0, s_Model_left_1, s_Model_left_2, s_Model_left_3, s_Model_left_4, s_Model_left_7, s_Model_left_10, s_Model_left_12, i64_0, i64_1, in_int, if_neg w, if_pos q, Option.bind_some, Option.toList_some, Option.toList_none, List.cons_append, List.nil_append, i10, i01, if_false, if_true, nI_add, nI_1]
  have qs : ¬ s < 0 ∧ ¬ (1 : Int32) < s ∧ (if s = 0 then (1 : Int32) else if s = 1 then 1 else 0) = 1 := by
    rcases q with rfl | rfl
    · exact ⟨by decide, by decide, rfl⟩
    · exact ⟨by decide, by decide, rfl⟩
  obtain ⟨s1, s2, s3⟩ := qs
  by_cases q1 : k < 0
  · refine ⟨-3, I, I, J, ?_, ?_, h⟩
    · simp only [e_Main_left, s_Main_left_0, s_Main_left_1, s_Main_left_4, s_Main_left_7, s_Main_left_9, s_Main_left_10, s_Main_left_11, s_Main_left_14, s_Main_left_15, s_Main_left_17, s_Main_left_20, s_Main_left_22, s_Main_left_23, s_Main_left_24, s_Main_left_27, s_Main_left_28, s_Main_left_31 (ar_rcv ar_9), s_Main_left_34, s_Main_left_35, s_Main_left_38, s_Main_left_39 (ar_rcv ar_9), s_Main_left_42, s_Main_left_43, s_Main_left_46, s_Main_left_47 (ar_rcv ar_9), s_Main_left_50, isSide_eq, s3, Option.bind_some, Option.toList_some, Option.toList_none, List.cons_append, List.nil_append, i10, i01, if_false, if_true, nI_add, nI_1, if_pos q1]
    · simp only [e_Model_left, s_Model_left_0, s_Model_left_1, s_Model_left_2, s_Model_left_3, s_Model_left_4, s_Model_left_7, s_Model_left_13, s_Model_left_14, s_Model_left_15, s_Model_left_16, s_Model_left_19, s_Model_left_22, s_Model_left_25, s_Model_left_27, i64_0, i64_1, i64_60, in_int, if_neg s1, if_neg s2, if_pos q1, Option.bind_some, Option.toList_some, Option.toList_none, List.cons_append, List.nil_append, i10, i01, if_false, if_true, nI_add, nI_1]
  by_cases q2 : (60 : Int32) < k
  · refine ⟨-3, I, I, J, ?_, ?_, h⟩
    · simp only [e_Main_left, s_Main_left_0, s_Main_left_1, s_Main_left_4, s_Main_left_7, s_Main_left_9, s_Main_left_10, s_Main_left_11, s_Main_left_14, s_Main_left_15, s_Main_left_17, s_Main_left_20, s_Main_left_22, s_Main_left_23, s_Main_left_24, s_Main_left_27, s_Main_left_28, s_Main_left_31 (ar_rcv ar_9), s_Main_left_34, s_Main_left_35, s_Main_left_38, s_Main_left_39 (ar_rcv ar_9), s_Main_left_42, s_Main_left_43, s_Main_left_46, s_Main_left_47 (ar_rcv ar_9), s_Main_left_50, isSide_eq, s3, Option.bind_some, Option.toList_some, Option.toList_none, List.cons_append, List.nil_append, i10, i01, if_false, if_true, nI_add, nI_1, ifle, if_neg q1, if_pos q2]
    · simp only [e_Model_left, s_Model_left_0, s_Model_left_1, s_Model_left_2, s_Model_left_3, s_Model_left_4, s_Model_left_7, s_Model_left_13, s_Model_left_14, s_Model_left_15, s_Model_left_16, s_Model_left_19, s_Model_left_22, s_Model_left_25, s_Model_left_27, i64_0, i64_1, i64_60, in_int, if_neg s1, if_neg s2, if_neg q1, if_pos q2, Option.bind_some, Option.toList_some, Option.toList_none, List.cons_append, List.nil_append, i10, i01, if_false, if_true, nI_add, nI_1]
  obtain ⟨D, hD, rfl⟩ : ∃ j : Nat, j ≤ 60 ∧ k = nI j := nI_of2 (M := 60) rfl q1 (Int32.not_lt.1 q2)
  have hW : Wf (takeI I 9 5) 9 n := cp_wf hR.wf cp_take
  have hc := try_c (I := I) (n := n) (D := D)
  have hL := lay_rw (I1 := daysI (takeI I 9 5) 9 n D) hR (hc 74 (by decide))
  have ed' : takeI I 9 5 9 4 = nI d := by rw [(cp_take (C := I) (a := 9) (b := 5)).2.1]; exact ed
  obtain ⟨I2, e2, r2, f2⟩ := mdays_in (F := F) (lv := lv + 6) (J := J) (D := D) hL (by omega) ed' (by omega)
  have e222 : (222 : Int32) = nI 222 := rfl
  have l2 := mleft_loop (F := F) (lv := lv + 9) (J := J) (s := s) (k := nI D) r2 (2 * n) 0 0 (by omega)
  have lf : rn F (lv + 9) 19 [.ref 9, .int s] (HH (daysI (takeI I 9 5) 9 n D) J) = some (some (.int (fold2 (sidF n s (lftF (daysI (takeI I 9 5) 9 n D) 9)) 0 (2 * n) 0)), HH (daysI (takeI I 9 5) 9 n D) J) := by
    rcases q with rfl | rfl
    · rw [sid_0]; exact lft0_in ar_9 (wf_days D hW).mn
    · rw [sid_1]; exact lft1_in ar_9 (wf_days D hW).mn
  refine ⟨fold2 (sidF n s (lftF (daysI (takeI I 9 5) 9 n D) 9)) 0 (2 * n) 0, daysI (takeI I 9 5) 9 n D, I2, J, ?_, ?_, inv_kp h (kp_try hc f2)⟩
  · simp only [e_Main_left, s_Main_left_0, s_Main_left_1, s_Main_left_4, s_Main_left_7, s_Main_left_9, s_Main_left_10, s_Main_left_11, s_Main_left_14, s_Main_left_15, s_Main_left_17, s_Main_left_20, s_Main_left_22, s_Main_left_23, s_Main_left_24, s_Main_left_27, s_Main_left_28, s_Main_left_31 (ar_rcv ar_9), s_Main_left_34, s_Main_left_35, s_Main_left_38, s_Main_left_39 (ar_rcv ar_9), s_Main_left_42, s_Main_left_43, s_Main_left_46, s_Main_left_47 (ar_rcv ar_9), s_Main_left_50, isSide_eq, s3, Option.bind_some, Option.toList_some, Option.toList_none, List.cons_append, List.nil_append, i10, i01, if_false, if_true, nI_add, nI_1, ifle, if_neg q1, if_neg q2, g_0_1, g_0_2, take_in ar_9 ar_5 (show 5 + 3 < 9 ∨ 9 + 3 < 5 by decide), pass_in (show D < 2 ^ 31 by omega) ar_9 hW, lf]
  · simp only [e_Model_left, s_Model_left_0, s_Model_left_1, s_Model_left_2, s_Model_left_3, s_Model_left_4, s_Model_left_7, s_Model_left_13, s_Model_left_14, s_Model_left_15, s_Model_left_16, s_Model_left_19, s_Model_left_22, i64_0, i64_1, i64_60, in_int, if_neg s1, if_neg s2, if_neg q1, if_neg q2, Option.bind_some, Option.toList_some, Option.toList_none, List.cons_append, List.nil_append, i10, i01, if_false, if_true, nI_add, nI_1, s_Model_left_28, s_Model_left_29 rcv_73, lay_in, s_Model_left_32, s_Model_left_33, s_Model_left_36, s_Model_left_37 rcv_73, e222, e2, s_Model_left_40, s_Model_left_41, s_Model_left_42, s_Model_left_43]
    exact l2
end Cal
