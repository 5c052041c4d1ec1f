/-! ===== sheet, drop, sum ===== -/
section Cal
variable {F : jx_F} {lv : Nat} {I I' : Nat → Nat → Int32} {J J' : Nat → Nat → Int64}
theorem i64_2 : (2 : Int64) = (2 : Int32).toInt64 := rfl
theorem pSheet_all (h : ∀ s, s < 3 → pSht I J s) : pSheet I J := ⟨h 0 (by decide), h 1 (by decide), h 2 (by decide)⟩
theorem pSht_k {s : Nat} (h : pSht I J s) (h1 : I' (67 + 2 * s) 1 = I (67 + 2 * s) 1) (h1' : I' (67 + 2 * s) 2 = I (67 + 2 * s) 2) (h2 : I' 80 s = I 80 s) (h3 : I' 81 s = I 81 s) (h4 : ∀ k, k < 10 → I' 82 (10 * s + k) = I 82 (10 * s + k)) (h5 : ∀ k, k < 10 → J' (68 + 2 * s) k = J (68 + 2 * s) k) : pSht I' J' s := by
  rcases h with ⟨a, b, c⟩ | ⟨z, t, hz, ht, a, b, c, d, e⟩
  · exact Or.inl ⟨by rw [h1]; exact a, by rw [h1']; exact b, by rw [h3]; exact c⟩
  · refine Or.inr ⟨z, t, hz, ht, by rw [h1]; exact a, by rw [h2]; exact b, by rw [h1']; exact c, by rw [h3]; exact d, ?_⟩
    intro k hk
    rw [h4 k (by omega), h5 k (by omega)]
    exact e k hk
theorem sheet_cases (x : Int32) : (x < 0 ∨ (2 : Int32) < x) ∨ ∃ s, s < 3 ∧ x = nI s := by
  rcases pk_ix x (n := 3) (by decide) with q | q | q
  · exact Or.inl (Or.inl q)
  · refine Or.inl (Or.inr ?_)
    rw [Int32.lt_iff_toInt_lt]
    rw [Int32.le_iff_toInt_le] at q
    have e : (nI 3).toInt = 3 := rfl
    have e1 : (2 : Int32).toInt = 2 := rfl
    omega
  · exact Or.inr q
theorem isSh_no {h : jx_H} {x : Int32} (q : x < 0 ∨ (2 : Int32) < x) : rn F lv 97 [.int x] h = some (some (.int 0), h) := by
  by_cases w : x < 0
  · simp only [e_Main_isSheet, s_Main_isSheet_0, s_Main_isSheet_1, s_Main_isSheet_4, s_Main_isSheet_5, s_Main_isSheet_6, s_Main_isSheet_9, s_Main_isSheet_10, s_Main_isSheet_13, rz_Main_isSheet_14, ro_Main_isSheet_14, if_pos w]
  · have w2 : (3 : Int32) ≤ x := by
      rcases q with q | q
      · exact absurd q w
      · rw [Int32.le_iff_toInt_le]
        rw [Int32.lt_iff_toInt_lt] at q
        have e : (3 : Int32).toInt = 3 := rfl
        have e1 : (2 : Int32).toInt = 2 := rfl
        omega
    simp only [e_Main_isSheet, s_Main_isSheet_0, s_Main_isSheet_1, s_Main_isSheet_4, s_Main_isSheet_5, s_Main_isSheet_6, s_Main_isSheet_9, s_Main_isSheet_10, s_Main_isSheet_13, rz_Main_isSheet_14, ro_Main_isSheet_14, if_neg w, if_pos w2]
theorem isSh_yes {h : jx_H} {s : Nat} (q : s < 3) : rn F lv 97 [.int (nI s)] h = some (some (.int 1), h) := by
  have e3 : (3 : Int32) = nI 3 := rfl
  simp only [e_Main_isSheet, s_Main_isSheet_0, s_Main_isSheet_1, s_Main_isSheet_4, s_Main_isSheet_5, s_Main_isSheet_6, s_Main_isSheet_9, s_Main_isSheet_10, s_Main_isSheet_13, rz_Main_isSheet_14, ro_Main_isSheet_14, if_neg (nI_pos (show s < 2 ^ 31 by omega)), e3, if_neg (nI_ge q (show 3 < 2 ^ 31 by decide))]
theorem mSh_no {h : jx_H} {x : Int32} (q : x < 0 ∨ (2 : Int32) < x) : rn F (lv + 1) 161 [.int x] h = some (some (.int 0), h) := by
  have e : (if x < 0 then (0 : Int32) else if 2 < x then 0 else 1) = 0 := by
    by_cases w : x < 0
    · rw [if_pos w]
    · rcases q with q | q
      · exact absurd q w
      · rw [if_neg w, if_pos q]
  simp only [e_Model_isSheet, s_Model_isSheet_0, s_Model_isSheet_1, s_Model_isSheet_2, s_Model_isSheet_3, s_Model_isSheet_6, i64_0, i64_2, in_int, e, Option.bind_some, Option.toList_some, Option.toList_none, List.cons_append, List.nil_append, i10, i01, if_false, if_true, nI_add, nI_1, s_Model_isSheet_0, s_Model_isSheet_1, s_Model_isSheet_2, s_Model_isSheet_3, s_Model_isSheet_6, rz_Model_isSheet_9, ro_Model_isSheet_9]
theorem mSh_yes {h : jx_H} {s : Nat} (q : s < 3) : rn F (lv + 1) 161 [.int (nI s)] h = some (some (.int 1), h) := by
  have e2 : (2 : Int32) = nI 2 := rfl
  have e : (if nI s < 0 then (0 : Int32) else if 2 < nI s then 0 else 1) = 1 := by
    rw [if_neg (nI_pos (by omega)), e2, if_neg (nI_nlt (by omega) (by decide))]
  simp only [e_Model_isSheet, s_Model_isSheet_0, s_Model_isSheet_1, s_Model_isSheet_2, s_Model_isSheet_3, s_Model_isSheet_6, i64_0, i64_2, in_int, e, Option.bind_some, Option.toList_some, Option.toList_none, List.cons_append, List.nil_append, i10, i01, if_false, if_true, nI_add, nI_1, s_Model_isSheet_0, s_Model_isSheet_1, s_Model_isSheet_2, s_Model_isSheet_3, s_Model_isSheet_6, rz_Model_isSheet_9, ro_Model_isSheet_9]
theorem isSort_eq {h : jx_H} {x : Int32} : rn F lv 98 [.int x] h = some (some (.int (if x = 0 then 1 else if x = 1 then 1 else 0)), h) := by
  simp only [e_Main_isSort, s_Main_isSort_0, s_Main_isSort_1, s_Main_isSort_4, s_Main_isSort_5, s_Main_isSort_6, s_Main_isSort_9, s_Main_isSort_10, s_Main_isSort_13, rz_Main_isSort_14, ro_Main_isSort_14]
  by_cases q : x = 0
  · simp only [if_pos q]
  · simp only [if_neg q]
    by_cases q2 : x = 1
    · simp only [if_pos q2]
    · simp only [if_neg q2]
/-- no such sort: both say it -/
theorem sort_cases (x : Int32) : ((if x = 0 then (1 : Int32) else if x = 1 then 1 else 0) = 0 ∧ (if x < 0 then (0 : Int32) else if 1 < x then 0 else 1) = 0) ∨ ((if x = 0 then (1 : Int32) else if x = 1 then 1 else 0) = 1 ∧ (if x < 0 then (0 : Int32) else if 1 < x then 0 else 1) = 1 ∧ ∃ t, t ≤ 1 ∧ x = nI t) := by
  rcases side_cases x with q | q
  · obtain ⟨q0, q1⟩ := side_no q
    refine Or.inl ⟨by rw [if_neg q0, if_neg q1], ?_⟩
    by_cases w : x < 0
    · rw [if_pos w]
    · rcases q with q | q
      · exact absurd q w
      · rw [if_neg w, if_pos q]
  · rcases q with rfl | rfl
    · exact Or.inr ⟨rfl, by decide, 0, by decide, rfl⟩
    · exact Or.inr ⟨rfl, by decide, 1, by decide, rfl⟩
theorem g80 {α : Type} {k : Nat} {f : Int32 → Option α} (hk : k < 3) : jx_gi (HH I J) 0 80 (nI k) f = f (I 80 k) := by rw [gi_80, at_in hk (by decide), nI_clamp (by omega)]
theorem p80 {α : Type} {k : Nat} {x : Int32} {f : jx_H → Option α} (hk : k < 3) : jx_pi (HH I J) 0 80 (nI k) x f = f (HH (up2 I 80 k x) J) := by rw [pi_80, at_in hk (by decide), nI_clamp (by omega)]
theorem g81 {α : Type} {k : Nat} {f : Int32 → Option α} (hk : k < 3) : jx_gi (HH I J) 0 81 (nI k) f = f (I 81 k) := by rw [gi_81, at_in hk (by decide), nI_clamp (by omega)]
theorem p81 {α : Type} {k : Nat} {x : Int32} {f : jx_H → Option α} (hk : k < 3) : jx_pi (HH I J) 0 81 (nI k) x f = f (HH (up2 I 81 k x) J) := by rw [pi_81, at_in hk (by decide), nI_clamp (by omega)]
theorem g82 {α : Type} {k : Nat} {f : Int32 → Option α} (hk : k < 30) : jx_gi (HH I J) 0 82 (nI k) f = f (I 82 k) := by rw [gi_82, at_in hk (by decide), nI_clamp (by omega)]
theorem p82 {α : Type} {k : Nat} {x : Int32} {f : jx_H → Option α} (hk : k < 30) : jx_pi (HH I J) 0 82 (nI k) x f = f (HH (up2 I 82 k x) J) := by rw [pi_82, at_in hk (by decide), nI_clamp (by omega)]
theorem m10 (s : Nat) : (10 : Int32) * nI s = nI (10 * s) := pk_mul 10 s
theorem msheet_loop {s : Nat} {so z : Int32} (hs : s < 3) : ∀ (c k : Nat), k + c = 10 → ev F lv jm_Model_sheet 53 [.ref 73, .int (nI s), .int so, .int z, .int (nI k)] [] (HH (upF I 82 (10 * s) (fun _ => 0) k) J) = some (some (.int z), HH (upF I 82 (10 * s) (fun _ => 0) 10) J) := by
  have e10 : (10 : Int32) = nI 10 := rfl
  intro c
  induction c with
  | zero =>
    intro k hk
    obtain rfl : k = 10 := by omega
    rw [s_Model_sheet_53]
    simp only [s_Model_sheet_55, s_Model_sheet_57, e10, if_pos (nI_le (Nat.le_refl 10) (show 10 < 2 ^ 31 by decide)), s_Model_sheet_79, s_Model_sheet_80]
  | succ c ih =>
    intro k hk
    rw [s_Model_sheet_53]
    simp only [s_Model_sheet_55, s_Model_sheet_57, s_Model_sheet_60, s_Model_sheet_61, s_Model_sheet_64, s_Model_sheet_66, s_Model_sheet_67, m10, s_Model_sheet_68, s_Model_sheet_70, nI_add, s_Model_sheet_71, s_Model_sheet_72, g_73_11, p82 (show 10 * s + k < 30 by omega), s_Model_sheet_73, s_Model_sheet_76, nI_1]
    rw [e10, if_neg (nI_ge (show k < 10 by omega) (show 10 < 2 ^ 31 by decide)), upF_s rfl]
    exact ih (k + 1) (by omega)
theorem st_sheet (h : Inv I J) (x so z : Int32) : Alk F lv 86 162 [.int x, .int so, .int z] I J := by
  rcases sheet_cases x with q | ⟨s, hs, rfl⟩
  · refine ⟨-2, I, I, J, ?_, ?_, h⟩
    · simp only [e_Main_sheet, s_Main_sheet_0, s_Main_sheet_1, s_Main_sheet_4, s_Main_sheet_7, s_Main_sheet_9, isSh_no q, Option.bind_some, Option.toList_some, Option.toList_none, List.cons_append, List.nil_append, i10, i01, if_false, if_true, nI_add, nI_1]
    · simp only [e_Model_sheet, s_Model_sheet_0, s_Model_sheet_1, s_Model_sheet_4, s_Model_sheet_7, s_Model_sheet_9, mSh_no q, Option.bind_some, Option.toList_some, Option.toList_none, List.cons_append, List.nil_append, i10, i01, if_false, if_true, nI_add, nI_1]
  rcases sort_cases so with ⟨c1, c2⟩ | ⟨c1, c2, t, ht, rfl⟩
  · refine ⟨-3, I, I, J, ?_, ?_, h⟩
    · simp only [e_Main_sheet, s_Main_sheet_0, s_Main_sheet_1, s_Main_sheet_4, s_Main_sheet_10, s_Main_sheet_11, s_Main_sheet_14, s_Main_sheet_23, s_Main_sheet_25, isSh_yes hs, isSort_eq, c1, Option.bind_some, Option.toList_some, Option.toList_none, List.cons_append, List.nil_append, i10, i01, if_false, if_true, nI_add, nI_1]
    · simp only [e_Model_sheet, s_Model_sheet_0, s_Model_sheet_1, s_Model_sheet_4, s_Model_sheet_10, s_Model_sheet_11, s_Model_sheet_12, s_Model_sheet_13, s_Model_sheet_14, s_Model_sheet_17, s_Model_sheet_26, s_Model_sheet_28, mSh_yes hs, i64_0, i64_1, in_int, c2, Option.bind_some, Option.toList_some, Option.toList_none, List.cons_append, List.nil_append, i10, i01, if_false, if_true, nI_add, nI_1]
  by_cases q1 : (10 : Int32) < z
  · refine ⟨-3, I, I, J, ?_, ?_, h⟩
    · simp only [e_Main_sheet, s_Main_sheet_0, s_Main_sheet_1, s_Main_sheet_4, s_Main_sheet_10, s_Main_sheet_11, s_Main_sheet_14, s_Main_sheet_17, s_Main_sheet_18, s_Main_sheet_20, s_Main_sheet_23, s_Main_sheet_25, isSh_yes hs, isSort_eq, c1, Option.bind_some, Option.toList_some, Option.toList_none, List.cons_append, List.nil_append, i10, i01, if_false, if_true, nI_add, nI_1, ifle, if_pos q1]
    · simp only [e_Model_sheet, s_Model_sheet_0, s_Model_sheet_1, s_Model_sheet_4, s_Model_sheet_10, s_Model_sheet_11, s_Model_sheet_12, s_Model_sheet_13, s_Model_sheet_14, s_Model_sheet_17, s_Model_sheet_20, s_Model_sheet_21, s_Model_sheet_23, s_Model_sheet_26, s_Model_sheet_28, mSh_yes hs, i64_0, i64_1, in_int, c2, Option.bind_some, Option.toList_some, Option.toList_none, List.cons_append, List.nil_append, i10, i01, if_false, if_true, nI_add, nI_1, ifle, if_pos q1]
  by_cases q2 : z < 0
  · refine ⟨-12, I, I, J, ?_, ?_, h⟩
    · simp only [e_Main_sheet, s_Main_sheet_0, s_Main_sheet_1, s_Main_sheet_4, s_Main_sheet_10, s_Main_sheet_11, s_Main_sheet_14, s_Main_sheet_17, s_Main_sheet_18, s_Main_sheet_20, s_Main_sheet_26, s_Main_sheet_27, s_Main_sheet_30, s_Main_sheet_32, isSh_yes hs, isSort_eq, c1, Option.bind_some, Option.toList_some, Option.toList_none, List.cons_append, List.nil_append, i10, i01, if_false, if_true, nI_add, nI_1, ifle, if_neg q1, if_pos q2]
    · simp only [e_Model_sheet, s_Model_sheet_0, s_Model_sheet_1, s_Model_sheet_4, s_Model_sheet_10, s_Model_sheet_11, s_Model_sheet_12, s_Model_sheet_13, s_Model_sheet_14, s_Model_sheet_17, s_Model_sheet_20, s_Model_sheet_21, s_Model_sheet_23, s_Model_sheet_29, s_Model_sheet_30, s_Model_sheet_33, s_Model_sheet_35, mSh_yes hs, i64_0, i64_1, in_int, c2, Option.bind_some, Option.toList_some, Option.toList_none, List.cons_append, List.nil_append, i10, i01, if_false, if_true, nI_add, nI_1, ifle, if_neg q1, if_pos q2]
  obtain ⟨zz, hz, rfl⟩ : ∃ j : Nat, j ≤ 10 ∧ z = nI j := nI_of2 (M := 10) rfl q2 (Int32.not_lt.1 q1)
  have ev : (if 0 < (if (10 : Int32) < nI zz then 10 else nI zz) then (if (10 : Int32) < nI zz then 10 else nI zz) else 0) = nI zz := by
    rw [if_neg q1]
    by_cases w : zz = 0
    · subst w; rfl
    · rw [if_pos (by rw [show (0 : Int32) = nI 0 from rfl]; exact nI_lt (by omega) (by omega))]
  have sb := sbeg_in (F := F) (lv := lv + 8) (I := I) (J := J) (x := nI t) (z := nI zz) (sh_s hs)
  rw [ev] at sb
  have l2 := msheet_loop (F := F) (lv := lv + 10) (I := up2 (up2 (up2 (up2 I (67 + 2 * s) 1 (nI t)) (67 + 2 * s) 2 (nI zz)) 80 s (nI t)) 81 s (nI zz)) (J := zeroL J (67 + 2 * s + 1) 10) (so := nI t) (z := nI zz) hs 10 0 (by omega)
  rw [upF_0] at l2
  refine ⟨nI zz, up2 (up2 I (67 + 2 * s) 1 (nI t)) (67 + 2 * s) 2 (nI zz), upF (up2 (up2 (up2 (up2 I (67 + 2 * s) 1 (nI t)) (67 + 2 * s) 2 (nI zz)) 80 s (nI t)) 81 s (nI zz)) 82 (10 * s) (fun _ => 0) 10, zeroL J (67 + 2 * s + 1) 10, ?_, ?_, ?_⟩
  · simp only [e_Main_sheet, s_Main_sheet_0, s_Main_sheet_1, s_Main_sheet_4, s_Main_sheet_10, s_Main_sheet_11, s_Main_sheet_14, s_Main_sheet_17, s_Main_sheet_18, s_Main_sheet_20, s_Main_sheet_26, s_Main_sheet_27, s_Main_sheet_33, s_Main_sheet_34, s_Main_sheet_37, s_Main_sheet_38, s_Main_sheet_39, s_Main_sheet_40, s_Main_sheet_41 (sh_rcv (sh_s hs)), s_Main_sheet_44, s_Main_sheet_45, isSh_yes hs, isSort_eq, c1, Option.bind_some, Option.toList_some, Option.toList_none, List.cons_append, List.nil_append, i10, i01, if_false, if_true, nI_add, nI_1, ifle, if_neg q1, if_neg q2, g_0_8, ga_sh hs, sb]
  · simp only [e_Model_sheet, s_Model_sheet_0, s_Model_sheet_1, s_Model_sheet_4, s_Model_sheet_10, s_Model_sheet_11, s_Model_sheet_12, s_Model_sheet_13, s_Model_sheet_14, s_Model_sheet_17, s_Model_sheet_20, s_Model_sheet_21, s_Model_sheet_23, s_Model_sheet_29, s_Model_sheet_30, s_Model_sheet_36, s_Model_sheet_37, s_Model_sheet_40, s_Model_sheet_41, s_Model_sheet_42, s_Model_sheet_43, s_Model_sheet_44, s_Model_sheet_47, s_Model_sheet_48, s_Model_sheet_49, s_Model_sheet_50, s_Model_sheet_51, mSh_yes hs, i64_0, i64_1, in_int, c2, Option.bind_some, Option.toList_some, Option.toList_none, List.cons_append, List.nil_append, i10, i01, if_false, if_true, nI_add, nI_1, ifle, if_neg q1, if_neg q2, g_73_9, g_73_10, p80 hs, p81 hs]
    exact l2
  · refine inv_sheet h ?_ (pSheet_all ?_)
    · intro x h1 h2 h3 h4 h5 h6
      have : x ≠ 67 + 2 * s := by omega
      rw [upF_ne h6, up2_ne h5, up2_ne h4, up2_ne this, up2_ne this]
    · intro s' hs'
      by_cases w : s' = s
      · subst w
        refine Or.inr ⟨zz, t, hz, ht, ?_, ?_, ?_, ?_, ?_⟩
        · rw [upF_ne (by omega), up2_ne (by omega), up2_ne (by omega), up2_eq, pk_un (by decide), up2_eq, pk_us]
        · rw [upF_ne (by decide), up2_ne (by decide), up2_eq, pk_us]
        · rw [upF_ne (by omega), up2_ne (by omega), up2_ne (by omega), up2_eq, pk_us]
        · rw [upF_ne (by decide), up2_eq, pk_us]
        · intro k hk
          rw [upF_in (by omega)]
          refine ⟨?_, by decide, by decide⟩
          unfold zeroL
          rw [if_pos (by omega), if_pos (by omega)]
          rfl
      · have n1 : 67 + 2 * s' ≠ 67 + 2 * s := by omega
        refine pSht_k (pS h.2.2.1 hs') ?_ ?_ ?_ ?_ ?_ ?_
        · rw [upF_ne (by omega), up2_ne (by omega), up2_ne (by omega), up2_ne n1, up2_ne n1]
        · rw [upF_ne (by omega), up2_ne (by omega), up2_ne (by omega), up2_ne n1, up2_ne n1]
        · rw [upF_ne (by decide), up2_ne (by decide), up2_eq, pk_un w, up2_ne (by omega), up2_ne (by omega)]
        · rw [upF_ne (by decide), up2_eq, pk_un w, up2_ne (by omega), up2_ne (by omega), up2_ne (by omega)]
        · intro k hk
          rw [upF_out (by omega), up2_ne (by omega), up2_ne (by omega), up2_ne (by omega), up2_ne (by omega)]
        · intro k hk
          unfold zeroL
          rw [if_neg (by omega)]
theorem st_drop (h : Inv I J) (x : Int32) : Alk F lv 92 170 [.int x] I J := by
  rcases sheet_cases x with q | ⟨s, hs, rfl⟩
  · refine ⟨-2, I, I, J, ?_, ?_, h⟩
    · simp only [e_Main_drop, s_Main_drop_0, s_Main_drop_1, s_Main_drop_4, s_Main_drop_7, s_Main_drop_9, isSh_no q, Option.bind_some, Option.toList_some, Option.toList_none, List.cons_append, List.nil_append, i10, i01, if_false, if_true, nI_add, nI_1]
    · simp only [e_Model_drop, s_Model_drop_0, s_Model_drop_1, s_Model_drop_4, s_Model_drop_7, s_Model_drop_9, mSh_no q, Option.bind_some, Option.toList_some, Option.toList_none, List.cons_append, List.nil_append, i10, i01, if_false, if_true, nI_add, nI_1]
  have hp := pS h.2.2.1 hs
  have key : ∀ (I1 : Nat → Nat → Int32), (∀ x, x ≠ 67 + 2 * s → I1 x = I x) → I1 (67 + 2 * s) 1 = -1 → I1 (67 + 2 * s) 2 = 0 → Inv (up2 I1 81 s (-1)) J := by
    intro I1 k0 k1 k2
    refine inv_sheet h ?_ (pSheet_all ?_)
    · intro x h1 h2 h3 h4 h5 h6; rw [up2_ne h5, k0 x (by omega)]
    · intro s' hs'
      by_cases w : s' = s
      · subst w
        exact Or.inl ⟨by rw [up2_ne (by omega)]; exact k1, by rw [up2_ne (by omega)]; exact k2, by rw [up2_eq, pk_us]⟩
      · have n1 : 67 + 2 * s' ≠ 67 + 2 * s := by omega
        refine pSht_k (pS h.2.2.1 hs') ?_ ?_ ?_ ?_ ?_ (fun _ _ => rfl)
        · rw [up2_ne (by omega), k0 _ n1]
        · rw [up2_ne (by omega), k0 _ n1]
        · rw [up2_ne (by decide), k0 _ (by omega)]
        · rw [up2_eq, pk_un w, k0 _ (by omega)]
        · intro k hk; rw [up2_ne (by decide), k0 _ (by omega)]
  rcases hp with ⟨a, b, c⟩ | ⟨z, t, hz, ht, a, b, c, e, f⟩
  · refine ⟨-11, I, up2 I 81 s (-1), J, ?_, ?_, key I (fun _ _ => rfl) a b⟩
    · simp only [e_Main_drop, s_Main_drop_0, s_Main_drop_1, s_Main_drop_4, s_Main_drop_10, s_Main_drop_11, s_Main_drop_14, s_Main_drop_15, s_Main_drop_16 (sh_rcv (sh_s hs)), s_Main_drop_19, s_Main_drop_22, s_Main_drop_24, isSh_yes hs, Option.bind_some, Option.toList_some, Option.toList_none, List.cons_append, List.nil_append, i10, i01, if_false, if_true, nI_add, nI_1, g_0_8, ga_sh hs, miss_eq (sh_s hs), a]
    · simp only [e_Model_drop, s_Model_drop_0, s_Model_drop_1, s_Model_drop_4, s_Model_drop_7, s_Model_drop_9, s_Model_drop_10, s_Model_drop_11, s_Model_drop_14, s_Model_drop_15, s_Model_drop_16, s_Model_drop_17, s_Model_drop_18, s_Model_drop_21, s_Model_drop_22, s_Model_drop_23, s_Model_drop_24, s_Model_drop_25, s_Model_drop_28, s_Model_drop_30, s_Model_drop_33, s_Model_drop_34, mSh_yes hs, Option.bind_some, Option.toList_some, Option.toList_none, List.cons_append, List.nil_append, i10, i01, if_false, if_true, nI_add, nI_1, g_73_10, g81 hs, c, p81 hs, ifle, if_pos (show (-1 : Int32) < 0 by decide)]
  · have ht1 : ¬ nI t = -1 := op_ne (by omega)
    refine ⟨nI z, up2 (up2 I (67 + 2 * s) 1 (-1)) (67 + 2 * s) 2 0, up2 (up2 (up2 I (67 + 2 * s) 1 (-1)) (67 + 2 * s) 2 0) 81 s (-1), J, ?_, ?_, key _ (fun x hx => by rw [up2_ne hx, up2_ne hx]) (by rw [up2_eq, pk_un (by decide), up2_eq, pk_us]) (by rw [up2_eq, pk_us])⟩
    · simp only [e_Main_drop, s_Main_drop_0, s_Main_drop_1, s_Main_drop_4, s_Main_drop_10, s_Main_drop_11, s_Main_drop_14, s_Main_drop_15, s_Main_drop_16 (sh_rcv (sh_s hs)), s_Main_drop_19, s_Main_drop_25, s_Main_drop_26, s_Main_drop_29, s_Main_drop_30, s_Main_drop_31, s_Main_drop_34, s_Main_drop_35, s_Main_drop_36, s_Main_drop_39, s_Main_drop_40, s_Main_drop_41 (sh_rcv (sh_s hs)), s_Main_drop_44, s_Main_drop_45, isSh_yes hs, Option.bind_some, Option.toList_some, Option.toList_none, List.cons_append, List.nil_append, i10, i01, if_false, if_true, nI_add, nI_1, g_0_8, ga_sh hs, miss_eq (sh_s hs), a, if_neg ht1, sh_2 (sh_s hs), c, lose_eq (sh_s hs)]
    · have e' : up2 (up2 I (67 + 2 * s) 1 (-1)) (67 + 2 * s) 2 0 81 s = nI z := by rw [up2_ne (by omega), up2_ne (by omega)]; exact e
      simp only [e_Model_drop, s_Model_drop_0, s_Model_drop_1, s_Model_drop_4, s_Model_drop_7, s_Model_drop_9, s_Model_drop_10, s_Model_drop_11, s_Model_drop_14, s_Model_drop_15, s_Model_drop_16, s_Model_drop_17, s_Model_drop_18, s_Model_drop_21, s_Model_drop_22, s_Model_drop_23, s_Model_drop_24, s_Model_drop_25, s_Model_drop_28, s_Model_drop_30, s_Model_drop_33, s_Model_drop_34, mSh_yes hs, Option.bind_some, Option.toList_some, Option.toList_none, List.cons_append, List.nil_append, i10, i01, if_false, if_true, nI_add, nI_1, g_73_10, g81 hs, e', p81 hs, ifle, if_neg (nI_pos (show z < 2 ^ 31 by omega))]
end Cal
