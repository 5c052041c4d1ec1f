/-! ===== day, mend, swap ===== -/
section Cal
variable {F : jx_F} {lv : Nat} {I I1 I3 : Nat → Nat → Int32} {J : Nat → Nat → Int64} {n : Nat}
theorem i64_9' : (9 : Int64) = (9 : Int32).toInt64 := rfl
/-- what the class's memory of an army leaves, and what it holds -/
theorem rem_facts {nx num : Nat} (hx : nx < 8) : (∀ x, x ≠ 19 → ¬ (21 + 4 * nx ≤ x ∧ x ≤ 24 + 4 * nx) → remI I 5 nx num x = I x) ∧ remI I 5 nx num 19 1 = nI (ringN nx) ∧ remI I 5 nx num 19 2 = nI (min 8 (num + 1)) ∧ CpA I 5 (remI I 5 nx num) (21 + 4 * nx) := by
  unfold remI
  have ne : ∀ d, 21 + 4 * nx + d ≠ 19 := fun d => by omega
  refine ⟨fun x h1 h2 => ?_, ?_, ?_, ?_⟩
  · rw [up2_ne h1, up2_ne h1, take_ne (by omega) (by omega) (by omega) (by omega)]
  · rw [up2_eq, pk_un (by decide), up2_eq, pk_us]
  · rw [up2_eq, pk_us]
  · refine cp_trans (cp_take (C := I) (a := 21 + 4 * nx) (b := 5)) (cp_same ?_ ?_ ?_ ?_)
    · rw [up2_ne (by omega), up2_ne (by omega)]
    · rw [up2_ne (ne 1), up2_ne (ne 1)]
    · rw [up2_ne (ne 2), up2_ne (ne 2)]
    · rw [up2_ne (ne 3), up2_ne (ne 3)]
theorem st_day (h : Inv I J) (k : Int32) : Alk F lv 69 137 [.int k] I J := by
  obtain ⟨n, hN, ⟨nx, num, hx, hu, p1, p2, p3, hp⟩, hK⟩ := h.2.2.2.2.2
  obtain ⟨hR, d, hd, ed⟩ := hN
  have h4 := hR.ms
  have hM := hR.wf.mn
  by_cases q1 : k < 1
  · refine ⟨-3, I, I, J, ?_, ?_, h⟩
    · simp only [e_Main_day, s_Main_day_0, s_Main_day_1, s_Main_day_2, s_Main_day_5, s_Main_day_6, s_Main_day_8, s_Main_day_11, s_Main_day_13, s_Main_day_14, s_Main_day_15, s_Main_day_18, s_Main_day_21, s_Main_day_22, s_Main_day_23, s_Main_day_26, s_Main_day_29, s_Main_day_31, s_Main_day_32, s_Main_day_33, s_Main_day_36, s_Main_day_37, s_Main_day_43, s_Main_day_44, s_Main_day_47, s_Main_day_51, s_Main_day_52, s_Main_day_55, s_Main_day_58, if_pos q1]
    · simp only [e_Model_day, s_Model_day_0, s_Model_day_1, s_Model_day_2, s_Model_day_3, s_Model_day_6, s_Model_day_9, s_Model_day_12, s_Model_day_14, s_Model_day_15, s_Model_day_16, s_Model_day_19, s_Model_day_21, s_Model_day_22, s_Model_day_23, s_Model_day_24, s_Model_day_27, s_Model_day_30, s_Model_day_32, s_Model_day_33, s_Model_day_34 rcv_73, s_Model_day_37, s_Model_day_38, s_Model_day_39, s_Model_day_40 rcv_73, s_Model_day_43, s_Model_day_44, s_Model_day_47, s_Model_day_49, s_Model_day_50, i64_1, i64_9', in_int, if_pos q1, Option.bind_some, Option.toList_some, Option.toList_none, List.cons_append, List.nil_append, i10, i01, if_false, if_true, nI_add, nI_1]
  by_cases q2 : (9 : Int32) < k
  · refine ⟨-3, I, I, J, ?_, ?_, h⟩
    · simp only [e_Main_day, s_Main_day_0, s_Main_day_1, s_Main_day_2, s_Main_day_5, s_Main_day_6, s_Main_day_8, s_Main_day_11, s_Main_day_13, s_Main_day_14, s_Main_day_15, s_Main_day_18, s_Main_day_21, s_Main_day_22, s_Main_day_23, s_Main_day_26, s_Main_day_29, s_Main_day_31, s_Main_day_32, s_Main_day_33, s_Main_day_36, s_Main_day_37, s_Main_day_43, s_Main_day_44, s_Main_day_47, s_Main_day_51, s_Main_day_52, s_Main_day_55, s_Main_day_58, ifle, if_neg q1, if_pos q2]
    · simp only [e_Model_day, s_Model_day_0, s_Model_day_1, s_Model_day_2, s_Model_day_3, s_Model_day_6, s_Model_day_9, s_Model_day_12, s_Model_day_14, s_Model_day_15, s_Model_day_16, s_Model_day_19, s_Model_day_21, s_Model_day_22, s_Model_day_23, s_Model_day_24, s_Model_day_27, s_Model_day_30, s_Model_day_32, s_Model_day_33, s_Model_day_34 rcv_73, s_Model_day_37, s_Model_day_38, s_Model_day_39, s_Model_day_40 rcv_73, s_Model_day_43, s_Model_day_44, s_Model_day_47, s_Model_day_49, s_Model_day_50, i64_1, i64_9', in_int, if_neg q1, if_pos q2, Option.bind_some, Option.toList_some, Option.toList_none, List.cons_append, List.nil_append, i10, i01, if_false, if_true, nI_add, nI_1]
  have q0 : ¬ k < 0 := fun w => q1 (by rw [Int32.lt_iff_toInt_lt] at w ⊢; exact Int.lt_trans w (by decide))
  obtain ⟨D, hD, rfl⟩ : ∃ j : Nat, j ≤ 9 ∧ k = nI j := nI_of2 (M := 9) rfl q0 (Int32.not_lt.1 q2)
  have e999 : (999 : Int32) = nI 999 := rfl
  have e16 : (16 : Int32) = nI 16 := rfl
  have dy : I 74 16 = nI d := by have := hR.dy; rw [Nat.zero_add] at this; rw [this]; exact ed
  by_cases q3 : 999 < d + D
  · refine ⟨-5, I, I, J, ?_, ?_, h⟩
    · simp only [e_Main_day, s_Main_day_0, s_Main_day_1, s_Main_day_2, s_Main_day_5, s_Main_day_6, s_Main_day_8, s_Main_day_11, s_Main_day_13, s_Main_day_14, s_Main_day_15, s_Main_day_18, s_Main_day_21, s_Main_day_22, s_Main_day_23, s_Main_day_26, s_Main_day_29, s_Main_day_31, s_Main_day_32, s_Main_day_33, s_Main_day_36, s_Main_day_37, s_Main_day_43, s_Main_day_44, s_Main_day_47, s_Main_day_51, s_Main_day_52, s_Main_day_55, s_Main_day_58, ifle, if_neg q1, if_neg q2, g_0_1, g_5_4, ed, nI_add, e999, if_pos (nI_lt q3 (show d + D < 2 ^ 31 by omega))]
    · simp only [e_Model_day, s_Model_day_0, s_Model_day_1, s_Model_day_2, s_Model_day_3, s_Model_day_6, s_Model_day_9, s_Model_day_12, s_Model_day_14, s_Model_day_15, s_Model_day_16, s_Model_day_19, s_Model_day_21, s_Model_day_22, s_Model_day_23, s_Model_day_24, s_Model_day_27, s_Model_day_30, s_Model_day_32, s_Model_day_33, s_Model_day_34 rcv_73, s_Model_day_37, s_Model_day_38, s_Model_day_39, s_Model_day_40 rcv_73, s_Model_day_43, s_Model_day_44, s_Model_day_47, s_Model_day_49, s_Model_day_50, i64_1, i64_9', in_int, if_neg q1, if_neg q2, Option.bind_some, Option.toList_some, Option.toList_none, List.cons_append, List.nil_append, i10, i01, if_false, if_true, nI_add, nI_1, g_73_0, e16, g74 (show 16 < 239 by decide), dy, ifle, e999, if_pos (nI_lt q3 (show d + D < 2 ^ 31 by omega))]
  have q3' : ¬ nI 999 < nI (d + D) := nI_nlt (by omega) (by omega)
  obtain ⟨f1, f2, f3, f4⟩ := rem_facts (I := I) (num := num) hx
  have cR : CpA I 5 (remI I 5 nx num) 5 := cp_same (f1 5 (by decide) (by omega)) (f1 6 (by decide) (by omega)) (f1 7 (by decide) (by omega)) (f1 8 (by decide) (by omega))
  have hW : Wf (remI I 5 nx num) 5 n := cp_wf hR.wf cR
  have edR : remI I 5 nx num 5 4 = nI d := by rw [cR.2.1]; exact ed
  have dd := days_d (a := 5) (n := n) D d _ edR
  have g1 : ∀ x, x ≠ 5 → x ≠ 7 → daysI (remI I 5 nx num) 5 n D x = remI I 5 nx num x := fun x h1 h2 => days_ne h1 h2 D _
  have run1 : rn F (lv + 10) 69 [.ref 0, .int (nI D)] (HH I J) = some (some (.int (nI (d + D))), HH (daysI (remI I 5 nx num) 5 n D) J) := by
    simp only [e_Main_day, s_Main_day_0, s_Main_day_1, s_Main_day_2, s_Main_day_5, s_Main_day_6, s_Main_day_8, s_Main_day_11, s_Main_day_13, s_Main_day_14, s_Main_day_15, s_Main_day_18, s_Main_day_21, s_Main_day_22, s_Main_day_23, s_Main_day_26, s_Main_day_29, s_Main_day_31, s_Main_day_32, s_Main_day_33, s_Main_day_36, s_Main_day_37, s_Main_day_43, s_Main_day_44, s_Main_day_47, s_Main_day_51, s_Main_day_52, s_Main_day_55, s_Main_day_58, ifle, if_neg q1, if_neg q2, g_0_1, g_0_4, g_5_4, ed, nI_add, e999, if_neg q3', s_Main_day_40 rcv_19, s_Main_day_48 (ar_rcv ar_5), rem_in ar_5 (show 5 + 3 < 19 by decide) hx hu p1 p2, Option.bind_some, Option.toList_some, Option.toList_none, List.cons_append, List.nil_append, i10, i01, if_false, if_true, nI_add, nI_1, pass_in (show D < 2 ^ 31 by omega) ar_5 hW, dd]
  generalize hI1 : daysI (remI I 5 nx num) 5 n D = I1 at run1 dd g1
  have h73 : I1 73 = I 73 := by rw [g1 73 (by decide) (by decide), f1 73 (by decide) (by omega)]
  have h74 : I1 74 = I 74 := by rw [g1 74 (by decide) (by decide), f1 74 (by decide) (by omega)]
  obtain ⟨I2, e2, k1, k2, k3, k4, k5, k6⟩ := mkeep_in (F := F) (lv := lv + 8) (I := I1) (J := J) hu (by rw [h73]; exact p3)
  have hR2 : Rw (remI I 5 nx num) 5 I2 0 n := rw_cp hR cR (by decide) (fun y a b => by rw [k4 y (by omega), h74]) (fun m hm => by rw [k4 _ (by omega), h74])
  obtain ⟨I3, e3, r3, fr1, fr2⟩ := mdays_in (F := F) (lv := lv + 6) (J := J) (D := D) hR2 (by omega) edR (by omega)
  rw [show nI 0 = (0 : Int32) from rfl] at e3
  rw [hI1] at r3
  have c3 : ∀ x, x ≠ 73 → x ≠ 74 → x ≠ 92 → I3 x = I1 x := fun x a b c => by rw [fr1 x b c, k1 x a b]
  have r3' : Rw I3 5 I3 0 n := rw_cp r3 (cp_same (c3 5 (by decide) (by decide) (by decide)) (c3 6 (by decide) (by decide) (by decide)) (c3 7 (by decide) (by decide) (by decide)) (c3 8 (by decide) (by decide) (by decide))) (by decide) (fun _ _ _ => rfl) (fun _ _ => rfl)
  have ed3 : I3 5 4 = nI (d + D) := by rw [c3 5 (by decide) (by decide) (by decide)]; exact dd
  have dy3 : I3 74 16 = nI (d + D) := by have := r3'.dy; rw [Nat.zero_add] at this; rw [this]; exact ed3
  have dy1 : I1 74 16 = nI d := by rw [h74]; exact dy
  refine ⟨nI (d + D), I1, I3, J, run1, ?_, ?_⟩
  · simp only [e_Model_day, s_Model_day_0, s_Model_day_1, s_Model_day_2, s_Model_day_3, s_Model_day_6, s_Model_day_9, s_Model_day_12, s_Model_day_14, s_Model_day_15, s_Model_day_16, s_Model_day_19, s_Model_day_21, s_Model_day_22, s_Model_day_23, s_Model_day_24, s_Model_day_27, s_Model_day_30, s_Model_day_32, s_Model_day_33, s_Model_day_34 rcv_73, s_Model_day_37, s_Model_day_38, s_Model_day_39, s_Model_day_40 rcv_73, s_Model_day_43, s_Model_day_44, s_Model_day_47, s_Model_day_49, s_Model_day_50, i64_1, i64_9', in_int, if_neg q1, if_neg q2, Option.bind_some, Option.toList_some, Option.toList_none, List.cons_append, List.nil_append, i10, i01, if_false, if_true, nI_add, nI_1, g_73_0, e16, g74 (show 16 < 239 by decide), dy1, ifle, e999, if_neg q3', e2, e3, dy3]
  · have i3 : ∀ x, x < 73 → ¬ (5 ≤ x ∧ x ≤ 8) → I3 x = remI I 5 nx num x := fun x a b => by rw [c3 x (by omega) (by omega) (by omega), g1 x (by omega) (by omega)]
    have i73 : ∀ y, I3 73 y = I2 73 y := fun y => by rw [fr1 73 (by decide) (by decide)]
    refine inv_done h ⟨hR, d, hd, ed⟩ hx hu hp hK (fun x a b c e => ?_) (fun x a b => ?_) ?_ ?_ ?_ ?_ ?_ ?_ ?_ ?_ ?_ ⟨r3', d + D, by omega, ed3⟩
    · rw [i3 x a (by omega), f1 x c e]
    · rw [c3 x (by omega) (by omega) (by omega), g1 x (by omega) (by omega), f1 x (by omega) (by omega)]
    · rw [i3 19 (by decide) (by decide)]; exact f2
    · rw [i3 19 (by decide) (by decide)]; exact f3
    · rw [i73]; exact k3
    · rw [i73, k2 4 (by decide), h73]
    · rw [i73, k2 5 (by decide), h73]
    · exact cp_trans f4 (cp_same (i3 _ (by omega) (by omega)) (i3 _ (by omega) (by omega)) (i3 _ (by omega) (by omega)) (i3 _ (by omega) (by omega)))
    · intro y a b c; rw [fr2 y (by omega) (by omega), k4 y (by omega), h74]
    · intro m hm; rw [fr2 _ (by omega) (by omega), k5 m hm, h74]
    · intro p hp' m hm; rw [fr2 _ (by omega) (by omega), k6 p hp' m hm, h74]
/-- the Model's row with a mender of now -/
theorem rw_mend {C : Nat → Nat → Int32} {j s : Nat} (h : Rw C 5 I 0 n) (hj : j < 2 * n) (hs : s < 2 * n) : Rw (up2 C 8 j (nI s)) 5 (up2 I 74 (8 + j) (nI s)) 0 n := by
  have h4 := h.ms
  refine ⟨⟨⟨by rw [up2_ne (by decide)]; exact h.wf.mn.1, h.wf.mn.2⟩, ?_, ?_, ?_⟩, by decide, ?_, ?_, ?_, ?_, ?_⟩
  · intro i hi; rw [up2_ne (by decide)]; exact h.wf.kd i hi
  · intro i hi; rw [up2_ne (by decide)]; exact h.wf.bt i hi
  · intro i hi
    show ∃ o, o < 2 * n ∧ up2 C 8 j (nI s) 8 i = nI o
    rw [up2_eq]
    by_cases w : i = j
    · subst w; exact ⟨s, hs, pk_us⟩
    · rw [pk_un w]; exact h.wf.md i hi
  · rw [up2_eq, pk_un (by omega)]; exact h.nn
  · intro i hi; rw [up2_eq, pk_un (by omega), up2_ne (by decide)]; exact h.k hi
  · intro i hi; rw [up2_eq, pk_un (by omega), up2_ne (by decide)]; exact h.bt hi
  · intro i hi
    show up2 I 74 (8 + j) (nI s) 74 (0 + 8 + i) = up2 C 8 j (nI s) 8 i
    rw [up2_eq, up2_eq]
    by_cases w : i = j
    · subst w; rw [show 0 + 8 + i = 8 + i by omega, pk_us, pk_us]
    · rw [pk_un (by omega), pk_un w]; exact h.md hi
  · rw [up2_eq, pk_un (by omega), up2_ne (by decide)]; exact h.dy
theorem two_no {m s : Int32} (hM : Mn I 5 n) (q : (m < 0 ∨ nI (2 * n) ≤ m) ∨ (s < 0 ∨ nI (2 * n) ≤ s) ∨ m = s) : rn F (lv + 1) 94 [.ref 0, .int m, .int s] (HH I J) = some (some (.int 0), HH I J) := by
  have h4 := hM.2
  rcases man_cases h4 m with w | ⟨j, hj, rfl⟩
  · simp only [e_Main_areTwoMen, s_Main_areTwoMen_0, s_Main_areTwoMen_1, s_Main_areTwoMen_4, s_Main_areTwoMen_5 (ar_rcv ar_5), s_Main_areTwoMen_8, s_Main_areTwoMen_11, s_Main_areTwoMen_12, s_Main_areTwoMen_15, s_Main_areTwoMen_16 (ar_rcv ar_5), s_Main_areTwoMen_19, s_Main_areTwoMen_22, s_Main_areTwoMen_23, s_Main_areTwoMen_24, s_Main_areTwoMen_27, s_Main_areTwoMen_28, s_Main_areTwoMen_31, rz_Main_areTwoMen_32, ro_Main_areTwoMen_32, g_0_1, has_no ar_5 hM w, Option.bind_some, Option.toList_some, Option.toList_none, List.cons_append, List.nil_append, i10, i01, if_false, if_true, nI_add, nI_1]
  · rcases man_cases h4 s with w | ⟨i, hi, rfl⟩
    · simp only [e_Main_areTwoMen, s_Main_areTwoMen_0, s_Main_areTwoMen_1, s_Main_areTwoMen_4, s_Main_areTwoMen_5 (ar_rcv ar_5), s_Main_areTwoMen_8, s_Main_areTwoMen_11, s_Main_areTwoMen_12, s_Main_areTwoMen_15, s_Main_areTwoMen_16 (ar_rcv ar_5), s_Main_areTwoMen_19, s_Main_areTwoMen_22, s_Main_areTwoMen_23, s_Main_areTwoMen_24, s_Main_areTwoMen_27, s_Main_areTwoMen_28, s_Main_areTwoMen_31, rz_Main_areTwoMen_32, ro_Main_areTwoMen_32, g_0_1, has_in ar_5 hM hj, has_no ar_5 hM w, Option.bind_some, Option.toList_some, Option.toList_none, List.cons_append, List.nil_append, i10, i01, if_false, if_true, nI_add, nI_1]
    · have e : nI j = nI i := by
        rcases q with q | q | q
        · rcases q with q | q
          · exact absurd q (nI_pos (by omega))
          · exact absurd q (nI_ge hj (by omega))
        · rcases q with q | q
          · exact absurd q (nI_pos (by omega))
          · exact absurd q (nI_ge hi (by omega))
        · exact q
      simp only [e_Main_areTwoMen, s_Main_areTwoMen_0, s_Main_areTwoMen_1, s_Main_areTwoMen_4, s_Main_areTwoMen_5 (ar_rcv ar_5), s_Main_areTwoMen_8, s_Main_areTwoMen_11, s_Main_areTwoMen_12, s_Main_areTwoMen_15, s_Main_areTwoMen_16 (ar_rcv ar_5), s_Main_areTwoMen_19, s_Main_areTwoMen_22, s_Main_areTwoMen_23, s_Main_areTwoMen_24, s_Main_areTwoMen_27, s_Main_areTwoMen_28, s_Main_areTwoMen_31, rz_Main_areTwoMen_32, ro_Main_areTwoMen_32, g_0_1, has_in ar_5 hM hj, has_in ar_5 hM hi, Option.bind_some, Option.toList_some, Option.toList_none, List.cons_append, List.nil_append, i10, i01, if_false, if_true, nI_add, nI_1, e]
theorem two_yes {j i : Nat} (hM : Mn I 5 n) (hj : j < 2 * n) (hi : i < 2 * n) (ne : j ≠ i) : rn F (lv + 1) 94 [.ref 0, .int (nI j), .int (nI i)] (HH I J) = some (some (.int 1), HH I J) := by
  have h4 := hM.2
  simp only [e_Main_areTwoMen, s_Main_areTwoMen_0, s_Main_areTwoMen_1, s_Main_areTwoMen_4, s_Main_areTwoMen_5 (ar_rcv ar_5), s_Main_areTwoMen_8, s_Main_areTwoMen_11, s_Main_areTwoMen_12, s_Main_areTwoMen_15, s_Main_areTwoMen_16 (ar_rcv ar_5), s_Main_areTwoMen_19, s_Main_areTwoMen_22, s_Main_areTwoMen_23, s_Main_areTwoMen_24, s_Main_areTwoMen_27, s_Main_areTwoMen_28, s_Main_areTwoMen_31, rz_Main_areTwoMen_32, ro_Main_areTwoMen_32, g_0_1, has_in ar_5 hM hj, has_in ar_5 hM hi, Option.bind_some, Option.toList_some, Option.toList_none, List.cons_append, List.nil_append, i10, i01, if_false, if_true, nI_add, nI_1, nI_eq (show j < 2 ^ 31 by omega) (show i < 2 ^ 31 by omega), if_neg ne]
theorem two_cases (h4 : 1 ≤ n ∧ n ≤ 4) (m s : Int32) : ((m < 0 ∨ nI (2 * n) ≤ m) ∨ (s < 0 ∨ nI (2 * n) ≤ s) ∨ m = s) ∨ ∃ j i, j < 2 * n ∧ i < 2 * n ∧ j ≠ i ∧ m = nI j ∧ s = nI i := by
  rcases man_cases h4 m with w | ⟨j, hj, rfl⟩
  · exact Or.inl (Or.inl w)
  · rcases man_cases h4 s with w | ⟨i, hi, rfl⟩
    · exact Or.inl (Or.inr (Or.inl w))
    · by_cases w : j = i
      · exact Or.inl (Or.inr (Or.inr (by rw [w])))
      · exact Or.inr ⟨j, i, hj, hi, w, rfl, rfl⟩
end Cal
